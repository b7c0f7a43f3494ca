/-! the reference's sorting puts a shelf's seals in another order -/
theorem cnt_sl {p q : Nat → Bool} : ∀ {n : Nat}, (∀ i, i < n → p i = true → q i = true) → cnt p n ≤ cnt q n
  | 0, _ => Int.le_refl _
  | n + 1, h => by
    have ih := cnt_sl (p := p) (q := q) (n := n) (fun i hi => h i (by omega))
    unfold cnt
    by_cases a : p n = true
    · rw [if_pos a, if_pos (h n (by omega) a)]
      omega
    · rw [if_neg a]
      split <;> omega
theorem cnt_ss {p q : Nat → Bool} {k : Nat} (hp : p k = false) (hq : q k = true) : ∀ {n : Nat}, (∀ i, i < n → p i = true → q i = true) → k < n → cnt p n < cnt q n
  | 0, _, h => by omega
  | n + 1, h, hk => by
    have ih := cnt_sl (p := p) (q := q) (n := n) (fun i hi => h i (by omega))
    unfold cnt
    by_cases e : k = n
    · subst e
      rw [hp, hq, if_neg (by decide), if_pos rfl]
      omega
    · have ih2 := cnt_ss hp hq (n := n) (fun i hi => h i (by omega)) (by omega)
      by_cases a : p n = true
      · rw [if_pos a, if_pos (h n (by omega) a)]
        omega
      · rw [if_neg a]
        split <;> omega
theorem pig : ∀ (n : Nat) (f : Nat → Nat), (∀ i, i < n → f i < n) → (∀ i j, i < n → j < n → f i = f j → i = j) → ∀ p, p < n → ∃ k, k < n ∧ f k = p
  | 0, _, _, _, p, hp => by omega
  | n + 1, f, h1, h2, p, hp => by
    by_cases e : f n = p
    · exact ⟨n, by omega, e⟩
    · have hg1 : ∀ i, i < n → (if f i = n then f n else f i) < n := fun i hi => by
        have a1 := h1 i (by omega)
        have a2 := h1 n (by omega)
        split
        · rename_i q
          have : ¬ f n = n := fun z => by
            have := h2 i n (by omega) (by omega) (q.trans z.symm)
            omega
          omega
        · omega
      have hg2 : ∀ i j, i < n → j < n → (if f i = n then f n else f i) = (if f j = n then f n else f j) → i = j := fun i j hi hj q => by
        split at q
        · rename_i qi
          split at q
          · rename_i qj; exact h2 i j (by omega) (by omega) (qi.trans qj.symm)
          · have := h2 n j (by omega) (by omega) q
            omega
        · split at q
          · have := h2 i n (by omega) (by omega) q
            omega
          · exact h2 i j (by omega) (by omega) q
      by_cases hpn : p = n
      · subst hpn
        have hlt : f p < p := by
          have := h1 p (by omega)
          omega
        obtain ⟨k, hk, hk2⟩ := pig p (fun i => if f i = p then f p else f i) hg1 hg2 (f p) hlt
        have hk3 : (if f k = p then f p else f k) = f p := hk2
        split at hk3
        · rename_i q; exact ⟨k, by omega, q⟩
        · have := h2 k p (by omega) (by omega) hk3
          omega
      · obtain ⟨k, hk, hk2⟩ := pig n (fun i => if f i = n then f n else f i) hg1 hg2 p (by omega)
        have hk3 : (if f k = n then f n else f k) = p := hk2
        split at hk3
        · exact absurd hk3 e
        · exact ⟨k, by omega, hk3⟩
def oLt (R : Nat → Nat → Int) (h i k : Nat) : Prop := oAt R h i < oAt R h k ∨ oAt R h i = oAt R h k ∧ i < k
theorem oAh_ss {R : Nat → Nat → Int} {h n k j : Nat} (hk : k < n) (hl : oLt R h k j) : oAh R h k n < oAh R h j n := by
  unfold oLt at hl
  refine cnt_ss (k := k) (decide_eq_false (by omega)) (decide_eq_true hl) (fun i _ q => ?_) hk
  have q1 := of_decide_eq_true q
  exact decide_eq_true (by omega)
theorem oAh_inj {R : Nat → Nat → Int} {h n k j : Nat} (hk : k < n) (hj : j < n) (e : (oAh R h k n).toNat = (oAh R h j n).toNat) : k = j := by
  have b1 := oAh_b R h k n hk
  have b2 := oAh_b R h j n hj
  by_cases q : k = j
  · exact q
  · rcases Int.lt_trichotomy (oAt R h k) (oAt R h j) with a | a | a
    · have := oAh_ss (R := R) (h := h) hk (Or.inl a : oLt R h k j)
      omega
    · rcases Nat.lt_or_gt_of_ne q with c | c
      · have := oAh_ss (R := R) (h := h) hk (Or.inr ⟨a, c⟩ : oLt R h k j)
        omega
      · have := oAh_ss (R := R) (h := h) hj (Or.inr ⟨a.symm, c⟩ : oLt R h j k)
        omega
    · have := oAh_ss (R := R) (h := h) hj (Or.inl a : oLt R h j k)
      omega
theorem oPl_at {R : Nat → Nat → Int} {h : Nat} {P : Nat → Int} {k : Nat} (hk : k < (R 18 h).toNat) : ∀ m, k < m → m ≤ (R 18 h).toNat → oPl R h P m (oAh R h k (R 18 h).toNat).toNat = R 19 (h * 6 + k)
  | 0, h1, _ => by omega
  | m + 1, h1, h2 => by
    unfold oPl
    by_cases e : k = m
    · subst e
      exact ud_e
    · rw [ud_n (fun q => e (oAh_inj hk (by omega) q))]
      exact oPl_at hk m (by omega) (by omega)
theorem oPl_ex (R : Nat → Nat → Int) (h : Nat) {p : Nat} (hp : p < (R 18 h).toNat) : ∃ k, k < (R 18 h).toNat ∧ (oAh R h k (R 18 h).toNat).toNat = p ∧ ∀ P, oPl R h P (R 18 h).toNat p = R 19 (h * 6 + k) := by
  obtain ⟨k, hk, e⟩ := pig (R 18 h).toNat (fun k => (oAh R h k (R 18 h).toNat).toNat) (fun i hi => by have := oAh_b R h i _ hi; show (oAh R h i (R 18 h).toNat).toNat < _; omega) (fun i j hi hj q => oAh_inj hi hj q) p hp
  refine ⟨k, hk, e, fun P => ?_⟩
  have e2 : (oAh R h k (R 18 h).toNat).toNat = p := e
  rw [← e2]
  exact oPl_at hk _ hk (Nat.le_refl _)
theorem oW_in {R : Nat → Nat → Int} {h : Nat} {P : Nat → Int} {p : Nat} : ∀ m, p < m → oW R h P m (h * 6 + p) = P p
  | 0, h1 => by omega
  | m + 1, h1 => by
    unfold oW
    by_cases e : p = m
    · subst e
      exact ud_e
    · rw [ud_n (by omega)]
      exact oW_in m (by omega)
theorem oW_out {R : Nat → Nat → Int} {h : Nat} {P : Nat → Int} {j : Nat} : ∀ m, (j < h * 6 ∨ h * 6 + m ≤ j) → oW R h P m j = R 19 j
  | 0, _ => rfl
  | m + 1, h1 => by
    unfold oW
    rw [ud_n (by omega)]
    exact oW_out m (by omega)
def sR (R : Nat → Nat → Int) (h : Nat) : Nat → Nat → Int := oR R h (fun _ => 0)
theorem oR_eq (R : Nat → Nat → Int) (h : Nat) (P : Nat → Int) : oR R h P = sR R h := by
  unfold sR oR
  congr 1
  funext j
  by_cases q : h * 6 ≤ j ∧ j < h * 6 + (R 18 h).toNat
  · obtain ⟨p, rfl⟩ : ∃ p, j = h * 6 + p := ⟨j - h * 6, by omega⟩
    rw [oW_in _ (by omega), oW_in _ (by omega)]
    obtain ⟨k, -, -, e⟩ := oPl_ex R h (p := p) (by omega)
    rw [e, e]
  · rw [oW_out _ (by omega), oW_out _ (by omega)]
theorem sR_k {R : Nat → Nat → Int} {h k : Nat} (hk : ¬ k = 19) : sR R h k = R k := if_neg hk
theorem sR_in (R : Nat → Nat → Int) (h : Nat) {p : Nat} (hp : p < (R 18 h).toNat) : ∃ k, k < (R 18 h).toNat ∧ (oAh R h k (R 18 h).toNat).toNat = p ∧ sR R h 19 (h * 6 + p) = R 19 (h * 6 + k) := by
  obtain ⟨k, h1, h2, h3⟩ := oPl_ex R h hp
  refine ⟨k, h1, h2, ?_⟩
  show oW R h (oPl R h (fun _ => 0) (R 18 h).toNat) (R 18 h).toNat (h * 6 + p) = _
  rw [oW_in _ hp, h3]
theorem sR_out {R : Nat → Nat → Int} {h j : Nat} (hj : j < h * 6 ∨ h * 6 + (R 18 h).toNat ≤ j) : sR R h 19 j = R 19 j := by
  show oW R h _ _ j = _
  exact oW_out _ hj
theorem SI_sR {R : Nat → Nat → Int} (hI : SI R) {h : Nat} (hh : h < 6) : SI (sR R h) := by
  have hn := hI.hN h hh
  have e : sR R h = u2 R 19 (sR R h 19) := by
    funext k
    unfold u2
    split
    · rename_i q; rw [q]
    · rename_i q; exact sR_k q
  rw [e]
  refine SI_19 hI (fun j => ?_) (fun h2 k a1 a2 => ?_) (fun h1 k1 h2 k2 a1 a2 a3 a4 q => ?_)
  · by_cases q : h * 6 ≤ j ∧ j < h * 6 + (R 18 h).toNat
    · obtain ⟨p, rfl⟩ : ∃ p, j = h * 6 + p := ⟨j - h * 6, by omega⟩
      obtain ⟨k, -, -, e3⟩ := sR_in R h (p := p) (by omega)
      rw [e3]
      exact hI.hB 19 _
    · rw [sR_out (by omega)]
      exact hI.hB 19 _
  · have b2 := hI.hN h2 a1
    by_cases q : h2 = h
    · subst q
      obtain ⟨z, c1, -, c3⟩ := sR_in R h2 (p := k) (by omega)
      rw [c3]
      exact hI.on h2 z hh (by omega)
    · rw [sR_out (by omega)]
      exact hI.on h2 k a1 a2
  · have b1 := hI.hN h1 a1
    have b2 := hI.hN h2 a2
    by_cases q1 : h1 = h <;> by_cases q2 : h2 = h
    · subst q1; subst q2
      obtain ⟨z1, c1, c2, c3⟩ := sR_in R h2 (p := k1) (by omega)
      obtain ⟨z2, d1, d2, d3⟩ := sR_in R h2 (p := k2) (by omega)
      rw [c3, d3] at q
      have := (hI.one _ _ _ _ a1 a2 (by omega) (by omega) q).2
      subst this
      exact ⟨rfl, c2.symm.trans d2⟩
    · subst q1
      obtain ⟨z1, c1, c2, c3⟩ := sR_in R h1 (p := k1) (by omega)
      rw [c3, sR_out (by omega)] at q
      exact absurd (hI.one _ _ _ _ a1 a2 (by omega) a4 q).1.symm q2
    · subst q2
      obtain ⟨z2, d1, d2, d3⟩ := sR_in R h2 (p := k2) (by omega)
      rw [d3, sR_out (by omega)] at q
      exact absurd (hI.one _ _ _ _ a1 a2 a3 (by omega) q).1 q1
    · rw [sR_out (by omega), sR_out (by omega)] at q
      exact hI.one _ _ _ _ a1 a2 a3 a4 q
