/-! the class's sorting is the reference's -/
theorem y0_eq {R : Nat → Nat → Int} (hI : SI R) {s : Nat} (hs : (s : Int) < R 10 0) : sFirst R s = y0 R s := by
  have hl := sLo_y hI hs
  exact (yr_eq hI hl.1 hl.2 (REL_s hI hs)).1
theorem yF_ge {R : Nat → Nat → Int} {n : Nat} {lo hi sp : Int} : yFirst R n lo hi sp = -1 ∨ lo ≤ yFirst R n lo hi sp := by
  unfold yFirst yFrom
  split
  · right; omega
  · left; rfl
theorem own_0 {R : Nat → Nat → Int} {s : Nat} (h : ownR R s = 0) : ¬ sFirst R s = -1 := fun z => by
  unfold ownR at h
  repeat' split at h
  all_goals first | omega | (rename_i q; exact q z)
theorem rsn_0 {R : Nat → Nat → Int} {s : Nat} (h : rsn R s = 0) : ownR R s = 0 := by
  unfold rsn rsI at h
  split at h
  · cases h
  · exact h
theorem y0_ge {R : Nat → Nat → Int} (hI : SI R) {s : Nat} (hs : (s : Int) < R 10 0) (h : rFk R s = 0) : 1000 ≤ y0 R s := by
  have hl := sLo_y hI hs
  rw [fk_eq hI hs] at h
  have h1 := own_0 (rsn_0 h)
  have h2 := yF_ge (R := R) (n := (R 1 0).toNat) (lo := sLo R s) (hi := sHi R s) (sp := sSp R s)
  rw [← y0_eq hI hs]
  unfold sFirst at h1 ⊢
  omega
/-- the judge's rank of a seal -/
theorem rk_eq {R J : Nat → Nat → Int} (hI : SI R) {s : Nat} (hs : (s : Int) < R 10 0) (h3 : J 3 s = rsn R s) (h4 : J 4 s = sFirst R s) : rkJ J s = rRk R s := by
  have hb := rFk_b R s
  unfold rkJ rRk
  rw [h3, h4, ← fk_eq hI hs, y0_eq hI hs]
  by_cases q : rFk R s = 0
  · rw [if_pos q, if_neg (by omega)]
  · rw [if_neg q, if_pos (by omega)]
def SRT (R R2 : Nat → Nat → Int) (h i : Nat) (π : Nat → Nat) : Prop := (∀ p, p < i → π p < i ∧ R2 19 (h * 6 + p) = R 19 (h * 6 + π p)) ∧ (∀ p q, p < q → q < i → oLt R h (π p) (π q)) ∧ (∀ j, (j < h * 6 ∨ h * 6 + i ≤ j) → R2 19 j = R 19 j) ∧ ∀ k, ¬ k = 19 → R2 k = R k
theorem SRT_s {R R2 J : Nat → Nat → Int} (hI : SI R) {h i : Nat} (hh : h < 6) (hi0 : 1 ≤ i) (hi : (i : Int) < R 18 h) (hJ : ∀ s : Nat, (s : Int) < R 10 0 → rkJ J s = rRk R s) {π : Nat → Nat} (H : SRT R R2 h i π) : ∃ π2, SRT R (u2 R2 19 (skF R2 J h i)) h (i + 1) π2 := by
  obtain ⟨H1, H2, H3, H4⟩ := H
  have hn := hI.hN h hh
  have hrk : ∀ p, p < i → rkJ J (gAt R2 h p) = oAt R h (π p) := fun p hp => by
    have h1 := H1 p hp
    have h2 := hI.on h (π p) hh (by omega)
    unfold gAt oAt
    rw [h1.2]
    exact hJ _ (by omega)
  have hki : R2 19 (h * 6 + i) = R 19 (h * 6 + i) := H3 _ (by omega)
  have hrki : rkJ J (gAt R2 h i) = oAt R h i := by
    have h2 := hI.on h i hh hi
    unfold gAt oAt
    rw [hki]
    exact hJ _ (by omega)
  obtain ⟨t, ht⟩ : ∃ t, t = skI R2 J h i := ⟨_, rfl⟩
  have htl : t ≤ i := by rw [ht]; exact fst_le _ _
  have big : ∀ q, i - t ≤ q → q < i → oAt R h i < oAt R h (π q) := fun q h1 h2 => by
    have hb := fst_before (p := fun m => !decide (rkJ J (gAt R2 h i) < rkJ J (gAt R2 h (i - 1 - m)))) (n := i) (j := i - 1 - q) (by
      show i - 1 - q < skI R2 J h i
      omega)
    have hb2 : (!decide (rkJ J (gAt R2 h i) < rkJ J (gAt R2 h (i - 1 - (i - 1 - q))))) = false := hb
    rw [show i - 1 - (i - 1 - q) = q from by omega, hrki, hrk q h2] at hb2
    simpa using hb2
  have small : ∀ q, q < i - t → oLt R h (π q) i := fun q hq => by
    have hlt : t < i := by omega
    have hb := fst_lt (p := fun m => !decide (rkJ J (gAt R2 h i) < rkJ J (gAt R2 h (i - 1 - m)))) (n := i) (by
      show skI R2 J h i < i
      omega)
    have hb2 : (!decide (rkJ J (gAt R2 h i) < rkJ J (gAt R2 h (i - 1 - skI R2 J h i)))) = true := hb
    rw [← ht, hrki, hrk (i - 1 - t) (by omega)] at hb2
    have hb3 : ¬ oAt R h i < oAt R h (π (i - 1 - t)) := by simpa using hb2
    have hpi := (H1 q (by omega)).1
    have hle : oAt R h (π q) ≤ oAt R h (π (i - 1 - t)) := by
      by_cases e : q = i - 1 - t
      · rw [e]; exact Int.le_refl _
      · have := H2 q (i - 1 - t) (by omega) (by omega)
        unfold oLt at this
        omega
    unfold oLt
    omega
  refine ⟨fun p => if p < i - t then π p else if p = i - t then i else π (p - 1), fun p hp => ?_, fun p q hpq hq => ?_, fun j hj => ?_, fun k hk => ?_⟩
  · show (if p < i - t then π p else if p = i - t then i else π (p - 1)) < i + 1 ∧ skF R2 J h i (h * 6 + p) = R 19 (h * 6 + (if p < i - t then π p else if p = i - t then i else π (p - 1)))
    rw [skF_own, ← ht]
    unfold skS
    by_cases a : p < i - t
    · rw [if_pos a, if_pos a]
      have := H1 p (by omega)
      exact ⟨by omega, this.2⟩
    · rw [if_neg a, if_neg a]
      by_cases b : p = i - t
      · rw [if_pos b, if_pos b]
        exact ⟨by omega, hki⟩
      · rw [if_neg b, if_neg b, if_pos (by omega)]
        have := H1 (p - 1) (by omega)
        exact ⟨by omega, this.2⟩
  · show oLt R h (if p < i - t then π p else if p = i - t then i else π (p - 1)) (if q < i - t then π q else if q = i - t then i else π (q - 1))
    by_cases a : q < i - t
    · rw [if_pos a, if_pos (by omega)]
      exact H2 p q hpq (by omega)
    · rw [if_neg a]
      by_cases b : q = i - t
      · rw [if_pos b, if_pos (by omega)]
        exact small p (by omega)
      · rw [if_neg b]
        by_cases c : p < i - t
        · rw [if_pos c]
          have h1 := small p c
          have h2 := big (q - 1) (by omega) (by omega)
          unfold oLt at h1 ⊢
          omega
        · rw [if_neg c]
          by_cases d : p = i - t
          · rw [if_pos d]
            exact Or.inl (big (q - 1) (by omega) (by omega))
          · rw [if_neg d]
            exact H2 (p - 1) (q - 1) (by omega) (by omega)
  · show skF R2 J h i j = R 19 j
    rw [← H3 j (by omega)]
    unfold skF updZ shr
    rw [← ht, if_neg (by omega), if_neg (by omega)]
  · show u2 R2 19 (skF R2 J h i) k = R k
    rw [show u2 R2 19 (skF R2 J h i) k = R2 k from if_neg hk]
    exact H4 k hk
theorem SRT_1 (R : Nat → Nat → Int) (h : Nat) : SRT R R h 1 (fun p => p) := ⟨fun p hp => ⟨hp, rfl⟩, fun p q h1 h2 => by omega, fun _ _ => rfl, fun _ _ => rfl⟩
theorem SRT_0 (R : Nat → Nat → Int) (h : Nat) : SRT R R h 0 (fun p => p) := ⟨fun p hp => ⟨hp, rfl⟩, fun p q h1 h2 => by omega, fun _ _ => rfl, fun _ _ => rfl⟩
theorem SRT_r {R J : Nat → Nat → Int} (hI : SI R) {h : Nat} (hh : h < 6) (hJ : ∀ s : Nat, (s : Int) < R 10 0 → rkJ J s = rRk R s) : ∀ i : Nat, 1 ≤ i → (i : Int) ≤ R 18 h → ∃ π, SRT R (srR R J h i) h i π
  | 0, h1, _ => by omega
  | i + 1, h1, h2 => by
    unfold srR
    by_cases e : i = 0
    · subst e
      rw [if_pos rfl]
      exact ⟨_, SRT_1 R h⟩
    · rw [if_neg e]
      obtain ⟨π, hp⟩ := SRT_r hI hh hJ i (by omega) (by omega)
      exact SRT_s hI hh (by omega) (by omega) hJ hp
theorem inc_ge {n : Nat} {f : Nat → Nat} (h2 : ∀ p q, p < q → q < n → f p < f q) : ∀ p, p < n → p ≤ f p
  | 0, _ => Nat.zero_le _
  | p + 1, hp => by
    have ih := inc_ge h2 p (by omega)
    have := h2 p (p + 1) (by omega) hp
    omega
theorem inc_le {n : Nat} {f : Nat → Nat} (h1 : ∀ p, p < n → f p < n) (h2 : ∀ p q, p < q → q < n → f p < f q) : ∀ d p, p < n → n - 1 - p = d → f p ≤ p
  | 0, p, hp, hd => by
    have := h1 p hp
    omega
  | d + 1, p, hp, hd => by
    have ih := inc_le h1 h2 d (p + 1) (by omega) (by omega)
    have := h2 p (p + 1) (by omega) (by omega)
    omega
theorem SRT_u {R R2 : Nat → Nat → Int} (hI : SI R) {h : Nat} (hh : h < 6) {π : Nat → Nat} (H : SRT R R2 h (R 18 h).toNat π) : R2 = sR R h ∧ ∀ p, p < (R 18 h).toNat → (oAh R h (π p) (R 18 h).toNat).toNat = p := by
  obtain ⟨H1, H2, H3, H4⟩ := H
  have hid : ∀ p, p < (R 18 h).toNat → (oAh R h (π p) (R 18 h).toNat).toNat = p := fun p hp => by
    have a1 : ∀ p, p < (R 18 h).toNat → (oAh R h (π p) (R 18 h).toNat).toNat < (R 18 h).toNat := fun p hp => by
      have := oAh_b R h (π p) _ (H1 p hp).1
      omega
    have a2 : ∀ p q, p < q → q < (R 18 h).toNat → (oAh R h (π p) (R 18 h).toNat).toNat < (oAh R h (π q) (R 18 h).toNat).toNat := fun p q hpq hq => by
      have b1 := oAh_ss (R := R) (h := h) (n := (R 18 h).toNat) (H1 p (by omega)).1 (H2 p q hpq hq)
      have b2 := oAh_b R h (π p) _ (H1 p (by omega)).1
      omega
    have b1 := inc_ge (f := fun p => (oAh R h (π p) (R 18 h).toNat).toNat) a2 p hp
    have b2 := inc_le (f := fun p => (oAh R h (π p) (R 18 h).toNat).toNat) a1 a2 _ p hp rfl
    exact Nat.le_antisymm b2 b1
  refine ⟨?_, hid⟩
  funext k
  by_cases hk : k = 19
  · subst hk
    funext j
    by_cases q : h * 6 ≤ j ∧ j < h * 6 + (R 18 h).toNat
    · obtain ⟨p, rfl⟩ : ∃ p, j = h * 6 + p := ⟨j - h * 6, by omega⟩
      obtain ⟨z, c1, c2, c3⟩ := sR_in R h (p := p) (by omega)
      have h1 := H1 p (by omega)
      rw [c3, h1.2, oAh_inj c1 h1.1 (c2.trans (hid p (by omega)).symm)]
    · rw [sR_out (by omega)]
      exact H3 j (by omega)
  · rw [sR_k hk]
    exact H4 k hk
theorem srt_eq {R J : Nat → Nat → Int} (hI : SI R) {h : Nat} (hh : h < 6) : srtR R J h = sR R h ∧ srtN R J h = oN R h (R 18 h).toNat := by
  have hn := hI.hN h hh
  have hJ : ∀ s : Nat, (s : Int) < R 10 0 → rkJ (srtJ R J) s = rRk R s := fun s hs => by
    have h1 := (SEE_see hI J).1 s hs
    exact rk_eq hI hs h1.2.2.2.2 h1.2.2.2.1
  have key : ∃ π, SRT R (srtR R J h) h (R 18 h).toNat π := by
    unfold srtR
    by_cases z : R 18 h = 0
    · have e : max 1 (shN R h) = 1 := by unfold shN; omega
      rw [e, show (R 18 h).toNat = 0 from by omega]
      exact ⟨_, SRT_0 R h⟩
    · have e : max 1 (shN R h) = (R 18 h).toNat := by unfold shN; omega
      rw [e]
      exact SRT_r hI hh hJ (R 18 h).toNat (by omega) (by omega)
  obtain ⟨π, hp⟩ := key
  obtain ⟨h1, h2⟩ := SRT_u hI hh hp
  refine ⟨h1, ?_⟩
  unfold srtN oN
  refine cnt_cong (fun k hk => decide_eq_decide.mpr ?_)
  unfold shN at hk
  have hpk := hp.1 k hk
  have hid := h2 k hk
  rw [hpk.2]
  have hb := oAh_b R h k _ hk
  constructor
  · intro q z
    refine q ?_
    have : k = π k := oAh_inj (R := R) (h := h) (n := (R 18 h).toNat) hk hpk.1 (by omega)
    rw [← this]
  · intro q z
    refine q ?_
    have h5 := (hI.one _ _ _ _ hh hh (by omega) (by omega) z).2
    rw [← h5] at hid
    omega
