/-! the state stays right; the reference's questions are the class's -/
theorem ud_e {f : Nat → Int} {k : Nat} {z : Int} : updZ f k z k = z := if_pos rfl
theorem ud_n {f : Nat → Int} {k j : Nat} {z : Int} (h : ¬ j = k) : updZ f k z j = f j := if_neg h
theorem SI_reign {R : Nat → Nat → Int} (hI : SI R) {y c : Int} (hY : isY y) (hc : 1 ≤ c ∧ c ≤ 255) (hn : R 1 0 < 10) (hb : R 1 0 = 0 ∨ R 2 ((R 1 0).toNat - 1) < y) : SI (u2 (u2 (u2 R 2 (updZ (R 2) (R 1 0).toNat y)) 3 (updZ (R 3) (R 1 0).toNat c)) 1 (fun _ => R 1 0 + 1)) := by
  have hr := hI.r
  obtain ⟨hY1, hY2⟩ := hY
  refine ⟨HB_u (HB_u (HB_u hI.hB (HB_upd (hI.hB 2) ⟨by omega, by omega⟩)) (HB_upd (hI.hB 3) ⟨by omega, by omega⟩)) (fun _ => ⟨by omega, by omega⟩), ?_, hI.d, hI.s, fun j hj => ?_, fun i j hij hj => ?_, hI.ds, hI.sl, hI.hN, hI.on, hI.one, hI.w⟩
  · show 0 ≤ R 1 0 + 1 ∧ R 1 0 + 1 ≤ 10
    omega
  · have hj2 : (j : Int) < R 1 0 + 1 := hj
    show 1000 ≤ updZ (R 2) (R 1 0).toNat y j ∧ updZ (R 2) (R 1 0).toNat y j ≤ 1999 ∧ 1 ≤ updZ (R 3) (R 1 0).toNat c j ∧ updZ (R 3) (R 1 0).toNat c j ≤ 255
    by_cases e : j = (R 1 0).toNat
    · subst e
      rw [ud_e, ud_e]
      exact ⟨hY1, hY2, hc.1, hc.2⟩
    · rw [ud_n e, ud_n e]
      exact hI.rg j (by omega)
  · have hj2 : (j : Int) < R 1 0 + 1 := hj
    show updZ (R 2) (R 1 0).toNat y i < updZ (R 2) (R 1 0).toNat y j
    rw [ud_n (j := i) (by omega)]
    by_cases e : j = (R 1 0).toNat
    · subst e
      rw [ud_e]
      by_cases e2 : i = (R 1 0).toNat - 1
      · subst e2
        omega
      · have := hI.inc i ((R 1 0).toNat - 1) (by omega) (by omega)
        omega
    · rw [ud_n e]
      exact hI.inc i j hij (by omega)
theorem SI_die {R : Nat → Nat → Int} (hI : SI R) {h a b : Int} (hh : 0 ≤ h ∧ h ≤ 5) (hY : isY a) (hab : a ≤ b ∧ b ≤ 1999) (hn : R 4 0 < 10) : SI (u2 (u2 (u2 (u2 (u2 R 5 (updZ (R 5) (R 4 0).toNat h)) 6 (updZ (R 6) (R 4 0).toNat a)) 7 (updZ (R 7) (R 4 0).toNat b)) 8 (updZ (R 8) (R 4 0).toNat 0)) 4 (fun _ => R 4 0 + 1)) := by
  have hd := hI.d
  obtain ⟨hY1, hY2⟩ := hY
  refine ⟨HB_u (HB_u (HB_u (HB_u (HB_u hI.hB (HB_upd (hI.hB 5) ⟨by omega, by omega⟩)) (HB_upd (hI.hB 6) ⟨by omega, by omega⟩)) (HB_upd (hI.hB 7) ⟨by omega, by omega⟩)) (HB_upd (hI.hB 8) ⟨by omega, by omega⟩)) (fun _ => ⟨by omega, by omega⟩), hI.r, ?_, hI.s, hI.rg, hI.inc, fun d hd2 => ?_, fun s hs => ?_, hI.hN, hI.on, hI.one, hI.w⟩
  · show 0 ≤ R 4 0 + 1 ∧ R 4 0 + 1 ≤ 10
    omega
  · have hj2 : (d : Int) < R 4 0 + 1 := hd2
    show 0 ≤ updZ (R 5) (R 4 0).toNat h d ∧ updZ (R 5) (R 4 0).toNat h d ≤ 5 ∧ 1000 ≤ updZ (R 6) (R 4 0).toNat a d ∧ updZ (R 6) (R 4 0).toNat a d ≤ updZ (R 7) (R 4 0).toNat b d ∧ updZ (R 7) (R 4 0).toNat b d ≤ 1999 ∧ 0 ≤ updZ (R 8) (R 4 0).toNat 0 d ∧ updZ (R 8) (R 4 0).toNat 0 d ≤ 4 ∧ ∀ k : Nat, (k : Int) < updZ (R 8) (R 4 0).toNat 0 d → 1000 ≤ R 9 (d * 4 + k) ∧ R 9 (d * 4 + k) ≤ 1999
    by_cases e : d = (R 4 0).toNat
    · subst e
      rw [ud_e, ud_e, ud_e, ud_e]
      exact ⟨hh.1, hh.2, hY1, hab.1, hab.2, by omega, by omega, fun k hk => by omega⟩
    · rw [ud_n e, ud_n e, ud_n e, ud_n e]
      exact hI.ds d (by omega)
  · have h1 := hI.sl s hs
    exact ⟨⟨h1.1.1, by show R 11 s < R 4 0 + 1; have := h1.1.2; omega⟩, h1.2⟩
theorem SI_crack {R : Nat → Nat → Int} (hI : SI R) {d : Nat} (hd : (d : Int) < R 4 0) {y : Int} (hY : isY y) (hm : R 8 d < 4) : SI (u2 (u2 R 9 (updZ (R 9) (d * 4 + (R 8 d).toNat) y)) 8 (updZ (R 8) d (R 8 d + 1))) := by
  have hdd := hI.ds d hd
  obtain ⟨hY1, hY2⟩ := hY
  refine ⟨HB_u (HB_u hI.hB (HB_upd (hI.hB 9) ⟨by omega, by omega⟩)) (HB_upd (hI.hB 8) ⟨by omega, by omega⟩), hI.r, hI.d, hI.s, hI.rg, hI.inc, fun e he => ?_, hI.sl, hI.hN, hI.on, hI.one, hI.w⟩
  have h1 := hI.ds e he
  show 0 ≤ R 5 e ∧ R 5 e ≤ 5 ∧ 1000 ≤ R 6 e ∧ R 6 e ≤ R 7 e ∧ R 7 e ≤ 1999 ∧ 0 ≤ updZ (R 8) d (R 8 d + 1) e ∧ updZ (R 8) d (R 8 d + 1) e ≤ 4 ∧ ∀ k : Nat, (k : Int) < updZ (R 8) d (R 8 d + 1) e → 1000 ≤ updZ (R 9) (d * 4 + (R 8 d).toNat) y (e * 4 + k) ∧ updZ (R 9) (d * 4 + (R 8 d).toNat) y (e * 4 + k) ≤ 1999
  by_cases q : e = d
  · subst q
    rw [ud_e]
    refine ⟨h1.1, h1.2.1, h1.2.2.1, h1.2.2.2.1, h1.2.2.2.2.1, by omega, by omega, fun k hk => ?_⟩
    by_cases q2 : k = (R 8 e).toNat
    · subst q2
      rw [ud_e]
      exact ⟨hY1, hY2⟩
    · rw [ud_n (by omega)]
      exact h1.2.2.2.2.2.2.2 k (by omega)
  · rw [ud_n q]
    refine ⟨h1.1, h1.2.1, h1.2.2.1, h1.2.2.2.1, h1.2.2.2.2.1, h1.2.2.2.2.2.1, h1.2.2.2.2.2.2.1, fun k hk => ?_⟩
    rw [ud_n (by omega)]
    exact h1.2.2.2.2.2.2.2 k hk
theorem SI_seal {R : Nat → Nat → Int} (hI : SI R) {d a q z x : Int} (hd : 0 ≤ d ∧ d < R 4 0) (ha : 0 ≤ a ∧ a ≤ 1) (hq : -1 ≤ q ∧ q ≤ 7) (hz : 0 ≤ z ∧ z ≤ 99) (hx : 0 ≤ x ∧ x < 16) (hn : R 10 0 < 24) : SI (u2 (u2 (u2 (u2 (u2 (u2 (u2 R 11 (updZ (R 11) (R 10 0).toNat d)) 12 (updZ (R 12) (R 10 0).toNat a)) 13 (updZ (R 13) (R 10 0).toNat q)) 14 (updZ (R 14) (R 10 0).toNat z)) 15 (updZ (R 15) (R 10 0).toNat x)) 16 (updZ (R 16) (R 10 0).toNat (-1))) 10 (fun _ => R 10 0 + 1)) := by
  have hs0 := hI.s
  have hd0 := hI.d
  refine ⟨HB_u (HB_u (HB_u (HB_u (HB_u (HB_u (HB_u hI.hB (HB_upd (hI.hB 11) ⟨by omega, by omega⟩)) (HB_upd (hI.hB 12) ⟨by omega, by omega⟩)) (HB_upd (hI.hB 13) ⟨by omega, by omega⟩)) (HB_upd (hI.hB 14) ⟨by omega, by omega⟩)) (HB_upd (hI.hB 15) ⟨by omega, by omega⟩)) (HB_upd (hI.hB 16) ⟨by omega, by omega⟩)) (fun _ => ⟨by omega, by omega⟩), hI.r, hI.d, ?_, hI.rg, hI.inc, hI.ds, fun s hs => ?_, hI.hN, fun h k hh hk => ?_, hI.one, hI.w⟩
  · show 0 ≤ R 10 0 + 1 ∧ R 10 0 + 1 ≤ 24
    omega
  · have hs2 : (s : Int) < R 10 0 + 1 := hs
    show (0 ≤ updZ (R 11) (R 10 0).toNat d s ∧ updZ (R 11) (R 10 0).toNat d s < R 4 0) ∧ (0 ≤ updZ (R 12) (R 10 0).toNat a s ∧ updZ (R 12) (R 10 0).toNat a s ≤ 1) ∧ (-1 ≤ updZ (R 13) (R 10 0).toNat q s ∧ updZ (R 13) (R 10 0).toNat q s ≤ 7) ∧ (0 ≤ updZ (R 14) (R 10 0).toNat z s ∧ updZ (R 14) (R 10 0).toNat z s ≤ 99) ∧ (0 ≤ updZ (R 15) (R 10 0).toNat x s ∧ updZ (R 15) (R 10 0).toNat x s < 16) ∧ (-1 ≤ updZ (R 16) (R 10 0).toNat (-1) s ∧ updZ (R 16) (R 10 0).toNat (-1) s ≤ 5)
    by_cases e : s = (R 10 0).toNat
    · subst e
      rw [ud_e, ud_e, ud_e, ud_e, ud_e, ud_e]
      exact ⟨hd, ha, hq, hz, hx, by omega, by omega⟩
    · rw [ud_n e, ud_n e, ud_n e, ud_n e, ud_n e, ud_n e]
      exact hI.sl s (by omega)
  · have h1 := hI.on h k hh hk
    exact ⟨h1.1, by show R 19 (h * 6 + k) < R 10 0 + 1; have := h1.2; omega⟩
theorem SI_show {R : Nat → Nat → Int} (hI : SI R) {t : Nat} {x : Int} (hx : 0 ≤ x ∧ x < 16) : SI (u2 R 15 (updZ (R 15) t x)) := by
  refine ⟨HB_u hI.hB (HB_upd (hI.hB 15) ⟨by omega, by omega⟩), hI.r, hI.d, hI.s, hI.rg, hI.inc, hI.ds, fun s hs => ?_, hI.hN, hI.on, hI.one, hI.w⟩
  have h1 := hI.sl s hs
  refine ⟨h1.1, h1.2.1, h1.2.2.1, h1.2.2.2.1, ?_, h1.2.2.2.2.2⟩
  show 0 ≤ updZ (R 15) t x s ∧ updZ (R 15) t x s < 16
  by_cases e : s = t
  · subst e
    rw [ud_e]
    exact hx
  · rw [ud_n e]
    exact h1.2.2.2.2.1
theorem SI_hang {R : Nat → Nat → Int} (hI : SI R) {t : Nat} {x : Int} (hx : -1 ≤ x ∧ x ≤ 5) : SI (u2 R 16 (updZ (R 16) t x)) := by
  refine ⟨HB_u hI.hB (HB_upd (hI.hB 16) ⟨by omega, by omega⟩), hI.r, hI.d, hI.s, hI.rg, hI.inc, hI.ds, fun s hs => ?_, hI.hN, hI.on, hI.one, hI.w⟩
  have h1 := hI.sl s hs
  refine ⟨h1.1, h1.2.1, h1.2.2.1, h1.2.2.2.1, h1.2.2.2.2.1, ?_⟩
  show -1 ≤ updZ (R 16) t x s ∧ updZ (R 16) t x s ≤ 5
  by_cases e : s = t
  · subst e
    rw [ud_e]
    exact hx
  · rw [ud_n e]
    exact h1.2.2.2.2.2
theorem SI_set {R : Nat → Nat → Int} (hI : SI R) {a : Nat} {v : Int} (ha : a < 2) (hv : 0 ≤ v ∧ v ≤ 99) : SI (u2 R 20 (updZ (R 20) a v)) := by
  have hw := hI.w
  refine ⟨HB_u hI.hB (HB_upd (hI.hB 20) ⟨by omega, by omega⟩), hI.r, hI.d, hI.s, hI.rg, hI.inc, hI.ds, hI.sl, hI.hN, hI.on, hI.one, ?_⟩
  show (0 ≤ updZ (R 20) a v 0 ∧ updZ (R 20) a v 0 ≤ 99) ∧ (0 ≤ updZ (R 20) a v 1 ∧ updZ (R 20) a v 1 ≤ 99)
  have h2 : a = 0 ∨ a = 1 := by omega
  rcases h2 with rfl | rfl
  · rw [ud_e, ud_n (by omega)]
    exact ⟨hv, hw.2⟩
  · rw [ud_e, ud_n (by omega)]
    exact ⟨hw.1, hv⟩
theorem sOf_y {R : Nat → Nat → Int} {t : Int} (h : sOf R t < 6) : pOn R (sOf R t) t < shN R (sOf R t) := by
  have h2 := fst_lt (p := fun h => decide (pOn R h t < shN R h)) (n := 6) h
  exact of_decide_eq_true h2
theorem on_p {R : Nat → Nat → Int} {h : Nat} {t : Int} (q : pOn R h t < shN R h) : R 19 (h * 6 + pOn R h t) = t := of_decide_eq_true (fst_lt (p := onS R h t) q)
theorem sOf_no {R : Nat → Nat → Int} {t : Int} (h : ¬ sOf R t < 6) {h1 k : Nat} (hh : h1 < 6) (hk : (k : Int) < R 18 h1) : ¬ R 19 (h1 * 6 + k) = t := fun e => by
  have h0 : pOn R h1 t < shN R h1 := by
    by_cases q : pOn R h1 t < shN R h1
    · exact q
    · have h3 : k < pOn R h1 t := by unfold shN at q; omega
      have := fst_before (p := onS R h1 t) h3
      exact absurd e (of_decide_eq_false this)
  have h4 : h1 < sOf R t := by omega
  have := fst_before (p := fun h => decide (pOn R h t < shN R h)) h4
  exact absurd h0 (of_decide_eq_false this)
def skR (p k : Nat) : Nat := if p ≤ k then k + 1 else k
theorem rm19_own {R : Nat → Nat → Int} {t : Int} (hs : sOf R t < 6) {k : Nat} (hk : k < shN R (sOf R t) - 1) : rmR R t 19 (sOf R t * 6 + k) = R 19 (sOf R t * 6 + skR (pOn R (sOf R t) t) k) := by
  unfold rmR
  rw [if_pos hs]
  show shl (R 19) (sOf R t * 6 + pOn R (sOf R t) t) (sOf R t * 6 + (shN R (sOf R t) - 1)) (sOf R t * 6 + k) = _
  unfold shl skR
  by_cases q : pOn R (sOf R t) t ≤ k
  · rw [if_pos (by omega), if_pos q, Nat.add_assoc]
  · rw [if_neg (by omega), if_neg q]
theorem rm19_oth {R : Nat → Nat → Int} (hI : SI R) {t : Int} {h k : Nat} (hne : ¬ h = sOf R t) (hk : k < 6) : rmR R t 19 (h * 6 + k) = R 19 (h * 6 + k) := by
  unfold rmR
  split
  · rename_i hs
    have hn := hI.hN (sOf R t) hs
    show shl (R 19) (sOf R t * 6 + pOn R (sOf R t) t) (sOf R t * 6 + (shN R (sOf R t) - 1)) (h * 6 + k) = _
    unfold shl
    rw [if_neg (by unfold shN; omega)]
  · rfl
theorem rm18_own {R : Nat → Nat → Int} {t : Int} (hs : sOf R t < 6) : rmR R t 18 (sOf R t) = R 18 (sOf R t) - 1 := by
  unfold rmR
  rw [if_pos hs]
  exact ud_e
theorem rm18_oth {R : Nat → Nat → Int} {t : Int} {h : Nat} (hne : ¬ h = sOf R t) : rmR R t 18 h = R 18 h := by
  unfold rmR
  split
  · exact ud_n hne
  · rfl
theorem rm_k {R : Nat → Nat → Int} {t : Int} {j : Nat} (h1 : ¬ j = 19) (h2 : ¬ j = 18) : rmR R t j = R j := by
  unfold rmR
  split
  · show (if j = 18 then _ else if j = 19 then _ else R j) = _
    rw [if_neg h2, if_neg h1]
  · rfl
theorem skR_inj {p i j : Nat} (h : skR p i = skR p j) : i = j := by
  unfold skR at h
  repeat' split at h
  all_goals omega
theorem skR_ne {p i : Nat} : ¬ skR p i = p := by
  unfold skR
  split <;> omega
theorem skR_lt {p i n : Nat} (h : i < n - 1) : skR p i < n := by
  unfold skR
  split <;> omega
theorem rm_at {R : Nat → Nat → Int} (hI : SI R) {t : Int} {h k : Nat} (hh : h < 6) (hk : (k : Int) < rmR R t 18 h) : ∃ k2 : Nat, (k2 : Int) < R 18 h ∧ rmR R t 19 (h * 6 + k) = R 19 (h * 6 + k2) ∧ ¬ R 19 (h * 6 + k2) = t ∧ k2 = (if h = sOf R t then skR (pOn R h t) k else k) := by
  have hn := hI.hN h hh
  by_cases q : h = sOf R t
  · subst q
    have hp := sOf_y hh
    rw [rm18_own hh] at hk
    refine ⟨skR (pOn R (sOf R t) t) k, ?_, rm19_own hh (by unfold shN; omega), fun e => ?_, by rw [if_pos rfl]⟩
    · have := skR_lt (p := pOn R (sOf R t) t) (i := k) (n := shN R (sOf R t)) (by unfold shN; omega)
      unfold shN at this
      omega
    · have h1 := on_p hp
      have h3 := skR_lt (p := pOn R (sOf R t) t) (i := k) (n := shN R (sOf R t)) (by unfold shN; omega)
      unfold shN at h3 hp
      exact skR_ne (hI.one _ _ _ _ hh hh (by omega) (by omega) (e.trans h1.symm)).2
  · rw [rm18_oth q] at hk
    refine ⟨k, hk, rm19_oth hI q (by omega), fun e => ?_, by rw [if_neg q]⟩
    by_cases hs : sOf R t < 6
    · have hp := sOf_y hs
      have h1 := on_p hp
      have hn2 := hI.hN _ hs
      unfold shN at hp
      exact q (hI.one _ _ _ _ hh hs hk (by omega) (e.trans h1.symm)).1
    · exact sOf_no hs hh hk e
theorem SI_rm {R : Nat → Nat → Int} (hI : SI R) (t : Int) : SI (rmR R t) := by
  have e : ∀ j, ¬ j = 19 → ¬ j = 18 → rmR R t j = R j := fun j h1 h2 => rm_k h1 h2
  refine ⟨rm_hB hI t, ?_, ?_, ?_, ?_, ?_, ?_, ?_, rm_hN hI t, fun h k hh hk => ?_, fun h k h2 k2 hh hh2 hk hk2 q => ?_, ?_⟩
  · rw [e 1 (by omega) (by omega)]; exact hI.r
  · rw [e 4 (by omega) (by omega)]; exact hI.d
  · rw [e 10 (by omega) (by omega)]; exact hI.s
  · rw [e 1 (by omega) (by omega), e 2 (by omega) (by omega), e 3 (by omega) (by omega)]; exact hI.rg
  · rw [e 1 (by omega) (by omega), e 2 (by omega) (by omega)]; exact hI.inc
  · rw [e 4 (by omega) (by omega), e 5 (by omega) (by omega), e 6 (by omega) (by omega), e 7 (by omega) (by omega), e 8 (by omega) (by omega), e 9 (by omega) (by omega)]; exact hI.ds
  · rw [e 10 (by omega) (by omega), e 11 (by omega) (by omega), e 12 (by omega) (by omega), e 13 (by omega) (by omega), e 14 (by omega) (by omega), e 15 (by omega) (by omega), e 16 (by omega) (by omega), e 4 (by omega) (by omega)]; exact hI.sl
  · obtain ⟨z, a1, a2, -, -⟩ := rm_at hI hh hk
    rw [a2, e 10 (by omega) (by omega)]
    exact hI.on h z hh a1
  · obtain ⟨z, a1, a2, -, a4⟩ := rm_at hI hh hk
    obtain ⟨z2, b1, b2, -, b4⟩ := rm_at hI hh2 hk2
    rw [a2, b2] at q
    obtain ⟨c1, c2⟩ := hI.one _ _ _ _ hh hh2 a1 b1 q
    subst c1
    refine ⟨rfl, ?_⟩
    rw [a4, b4] at c2
    split at c2
    · exact skR_inj c2
    · exact c2
  · rw [e 20 (by omega) (by omega)]; exact hI.w
def skI2 (p k : Nat) : Nat := if p < k then k - 1 else k
theorem in19_own {R : Nat → Nat → Int} {h p k : Nat} {z : Int} (hk : k ≤ shN R h) (hne : ¬ k = p) : inR R h p z 19 (h * 6 + k) = R 19 (h * 6 + skI2 p k) := by
  show updZ (shr (R 19) (h * 6 + p) (h * 6 + shN R h)) (h * 6 + p) z (h * 6 + k) = _
  rw [ud_n (by omega)]
  unfold shr skI2
  by_cases q : p < k
  · rw [if_pos (by omega), if_pos q, show h * 6 + k - 1 = h * 6 + (k - 1) from by omega]
  · rw [if_neg (by omega), if_neg q]
theorem in19_at {R : Nat → Nat → Int} {h p : Nat} {z : Int} : inR R h p z 19 (h * 6 + p) = z := by
  show updZ (shr (R 19) (h * 6 + p) (h * 6 + shN R h)) (h * 6 + p) z (h * 6 + p) = _
  exact ud_e
theorem in19_oth {R : Nat → Nat → Int} {h p k h2 : Nat} {z : Int} (hp : p ≤ shN R h) (hm : shN R h < 6) (hk : k < 6) (hne : ¬ h2 = h) : inR R h p z 19 (h2 * 6 + k) = R 19 (h2 * 6 + k) := by
  show updZ (shr (R 19) (h * 6 + p) (h * 6 + shN R h)) (h * 6 + p) z (h2 * 6 + k) = _
  rw [ud_n (by omega)]
  unfold shr
  rw [if_neg (by omega)]
theorem in_k {R : Nat → Nat → Int} {h p j : Nat} {z : Int} (h1 : ¬ j = 19) (h2 : ¬ j = 18) : inR R h p z j = R j := by
  show (if j = 18 then _ else if j = 19 then _ else R j) = _
  rw [if_neg h2, if_neg h1]
theorem in18_own {R : Nat → Nat → Int} {h p : Nat} {z : Int} : inR R h p z 18 h = R 18 h + 1 := by
  show updZ (R 18) h (R 18 h + 1) h = _
  exact ud_e
theorem in18_oth {R : Nat → Nat → Int} {h p h2 : Nat} {z : Int} (hne : ¬ h2 = h) : inR R h p z 18 h2 = R 18 h2 := by
  show updZ (R 18) h (R 18 h + 1) h2 = _
  exact ud_n hne
theorem skI2_inj {p i j : Nat} (hi : ¬ i = p) (hj : ¬ j = p) (h : skI2 p i = skI2 p j) : i = j := by
  unfold skI2 at h
  repeat' split at h
  all_goals omega
theorem in_at {R : Nat → Nat → Int} (hI : SI R) {h p : Nat} {z : Int} (hh : h < 6) (hp : p ≤ shN R h) (hm : shN R h < 6) {h2 k : Nat} (hh2 : h2 < 6) (hk : (k : Int) < inR R h p z 18 h2) : (h2 = h ∧ k = p ∧ inR R h p z 19 (h2 * 6 + k) = z) ∨ (¬ (h2 = h ∧ k = p) ∧ ∃ k2 : Nat, (k2 : Int) < R 18 h2 ∧ inR R h p z 19 (h2 * 6 + k) = R 19 (h2 * 6 + k2) ∧ k2 = (if h2 = h then skI2 p k else k)) := by
  have hn := hI.hN h hh
  have hn2 := hI.hN h2 hh2
  by_cases q : h2 = h
  · subst q
    rw [in18_own] at hk
    by_cases e : k = p
    · subst e
      exact Or.inl ⟨rfl, rfl, in19_at⟩
    · refine Or.inr ⟨fun w => e w.2, skI2 p k, ?_, in19_own (by unfold shN; omega) e, by rw [if_pos rfl]⟩
      unfold shN at hp hm
      unfold skI2
      split <;> omega
  · rw [in18_oth q] at hk
    exact Or.inr ⟨fun w => q w.1, k, hk, in19_oth hp hm (by omega) q, by rw [if_neg q]⟩
theorem SI_in {R : Nat → Nat → Int} (hI : SI R) {h p : Nat} {z : Int} (hh : h < 6) (hp : p ≤ shN R h) (hm : shN R h < 6) (hz : 0 ≤ z ∧ z < R 10 0) (hno : ∀ h2 k : Nat, h2 < 6 → (k : Int) < R 18 h2 → ¬ R 19 (h2 * 6 + k) = z) : SI (inR R h p z) := by
  have e : ∀ j, ¬ j = 19 → ¬ j = 18 → inR R h p z j = R j := fun j h1 h2 => in_k h1 h2
  have hn := hI.hN h hh
  have hs := hI.s
  refine ⟨?_, ?_, ?_, ?_, ?_, ?_, ?_, ?_, fun h2 hh2 => ?_, fun h2 k hh2 hk => ?_, fun h1 k1 h2 k2 hh1 hh2 hk1 hk2 q => ?_, ?_⟩
  · unfold inR
    exact HB_u (HB_u hI.hB (HB_upd (HB_shr (hI.hB 19)) ⟨by omega, by omega⟩)) (HB_upd (hI.hB 18) ⟨by omega, by omega⟩)
  · rw [e 1 (by omega) (by omega)]; exact hI.r
  · rw [e 4 (by omega) (by omega)]; exact hI.d
  · rw [e 10 (by omega) (by omega)]; exact hI.s
  · rw [e 1 (by omega) (by omega), e 2 (by omega) (by omega), e 3 (by omega) (by omega)]; exact hI.rg
  · rw [e 1 (by omega) (by omega), e 2 (by omega) (by omega)]; exact hI.inc
  · rw [e 4 (by omega) (by omega), e 5 (by omega) (by omega), e 6 (by omega) (by omega), e 7 (by omega) (by omega), e 8 (by omega) (by omega), e 9 (by omega) (by omega)]; exact hI.ds
  · rw [e 10 (by omega) (by omega), e 11 (by omega) (by omega), e 12 (by omega) (by omega), e 13 (by omega) (by omega), e 14 (by omega) (by omega), e 15 (by omega) (by omega), e 16 (by omega) (by omega), e 4 (by omega) (by omega)]; exact hI.sl
  · by_cases q : h2 = h
    · subst q
      rw [in18_own]
      unfold shN at hm
      omega
    · rw [in18_oth q]
      exact hI.hN h2 hh2
  · rw [e 10 (by omega) (by omega)]
    rcases in_at hI hh hp hm hh2 hk with ⟨-, -, a⟩ | ⟨-, k3, a1, a2, -⟩
    · rw [a]; exact hz
    · rw [a2]; exact hI.on h2 k3 hh2 a1
  · rcases in_at hI hh hp hm hh1 hk1 with ⟨a1, a2, a3⟩ | ⟨a0, x1, a1, a2, a3⟩
    · rcases in_at hI hh hp hm hh2 hk2 with ⟨b1, b2, b3⟩ | ⟨b0, x2, b1, b2, b3⟩
      · exact ⟨a1.trans b1.symm, a2.trans b2.symm⟩
      · rw [a3, b2] at q
        exact absurd q.symm (hno _ _ hh2 b1)
    · rcases in_at hI hh hp hm hh2 hk2 with ⟨b1, b2, b3⟩ | ⟨b0, x2, b1, b2, b3⟩
      · rw [a2, b3] at q
        exact absurd q (hno _ _ hh1 a1)
      · rw [a2, b2] at q
        obtain ⟨c1, c2⟩ := hI.one _ _ _ _ hh1 hh2 a1 b1 q
        subst c1
        refine ⟨rfl, ?_⟩
        rw [a3, b3] at c2
        split at c2
        · rename_i w
          exact skI2_inj (fun v => a0 ⟨w, v⟩) (fun v => b0 ⟨w, v⟩) c2
        · exact c2
  · rw [e 20 (by omega) (by omega)]; exact hI.w
theorem SI_aReign {R : Nat → Nat → Int} (hI : SI R) (y c : Int) : SI (aReign R y c).2 := by
  have hr := hI.r
  unfold aReign
  split
  · exact hI
  · rename_i h1
    split
    · exact hI
    · rename_i h2
      unfold isY at h1
      have h3 : ¬ kBehind R (R 1 0).toNat y = false := fun q => h2 (Or.inr q)
      refine SI_reign hI ⟨by omega, by omega⟩ ⟨by omega, by omega⟩ (by omega) ?_
      unfold kBehind at h3
      simp only [Bool.or_eq_false_iff, decide_eq_false_iff_not, Classical.not_and_iff_not_or_not, Classical.not_not] at h3
      rcases h3 with h3 | h3
      · left; omega
      · right; exact h3
theorem SI_aDie {R : Nat → Nat → Int} (hI : SI R) (h a b : Int) : SI (aDie R h a b).2 := by
  unfold aDie
  split
  · exact hI
  · rename_i h1
    split
    · exact hI
    · unfold isY at h1
      exact SI_die hI ⟨by omega, by omega⟩ ⟨by omega, by omega⟩ ⟨by omega, by omega⟩ (by omega)
theorem SI_aCrack {R : Nat → Nat → Int} (hI : SI R) (d y : Int) : SI (aCrack R d y).2 := by
  unfold aCrack
  split
  · exact hI
  · split
    · exact hI
    · rename_i h1 h2
      split
      · exact hI
      · rename_i h3
        unfold isY at h2
        exact SI_crack hI (by omega) ⟨by omega, by omega⟩ (by omega)
theorem SI_aSeal {R : Nat → Nat → Int} (hI : SI R) (d a q z x : Int) : SI (aSeal R d a q z x).2 := by
  unfold aSeal
  split
  · exact hI
  · split
    · exact hI
    · rename_i h1 h2
      split
      · exact hI
      · have hdd := hI.ds d.toNat (by omega)
        have hp := pow_r (m := (R 8 d.toNat).toNat) (by omega)
        exact SI_seal hI ⟨by omega, by omega⟩ ⟨by omega, by omega⟩ ⟨by omega, by omega⟩ ⟨by omega, by omega⟩ ⟨by omega, by omega⟩ (by omega)
theorem SI_aShow {R : Nat → Nat → Int} (hI : SI R) (t x : Int) : SI (aShow R t x).2 := by
  unfold aShow
  split
  · exact hI
  · split
    · exact hI
    · rename_i h1 h2
      have hsl := hI.sl t.toNat (by omega)
      have hdd := hI.ds (R 11 t.toNat).toNat (by omega)
      have hp := pow_r (m := (R 8 (R 11 t.toNat).toNat).toNat) (by omega)
      exact SI_show hI ⟨by omega, by omega⟩
theorem SI_aHang {R : Nat → Nat → Int} (hI : SI R) (t q : Int) : SI (aHang R t q).2 := by
  unfold aHang
  split
  · exact hI
  · exact SI_hang hI ⟨by omega, by omega⟩
theorem SI_aCut {R : Nat → Nat → Int} (hI : SI R) (t : Int) : SI (aCut R t).2 := by
  unfold aCut
  split
  · exact hI
  · split
    · exact hI
    · exact SI_hang hI ⟨by omega, by omega⟩
theorem rm_no {R : Nat → Nat → Int} (hI : SI R) {t : Int} {h k : Nat} (hh : h < 6) (hk : (k : Int) < rmR R t 18 h) : ¬ rmR R t 19 (h * 6 + k) = t := by
  obtain ⟨z, -, a2, a3, -⟩ := rm_at hI hh hk
  rw [a2]; exact a3
theorem SI_aShelve {R : Nat → Nat → Int} (hI : SI R) (t h k : Int) : SI (aShelve R t h k).2 := by
  unfold aShelve
  split
  · exact hI
  · split
    · exact hI
    · split
      · exact hI
      · rename_i h1 h2 h3
        have hh : h.toNat < 6 := by omega
        have e := rm_18 hI (t := t) hh
        have e2 : shN (rmR R t) h.toNat = (oth R h.toNat t).toNat := by unfold shN; rw [e]
        refine SI_in (SI_rm hI t) hh (by omega) (by omega) ⟨by omega, ?_⟩ (fun h2 k hh2 hk => rm_no hI hh2 hk)
        rw [rm_k (by omega) (by omega)]
        omega
theorem SI_aTake {R : Nat → Nat → Int} (hI : SI R) (t : Int) : SI (aTake R t).2 := by
  unfold aTake
  split
  · exact hI
  · split
    · exact hI
    · exact SI_rm hI t
theorem SI_aSet {R : Nat → Nat → Int} (hI : SI R) (a v : Int) : SI (aSet R a v).2 := by
  unfold aSet
  split
  · exact hI
  · exact SI_set hI (by omega) ⟨by omega, by omega⟩
/-! last and first place -/
def lastf (p : Nat → Bool) : Nat → Int
  | 0 => -1
  | n + 1 => if p n then (n : Int) else lastf p n
theorem lastf_eq {p : Nat → Bool} : ∀ {n : Nat}, (∀ i j, i < n → j < n → p i = true → p j = true → i = j) → lastf p n = plI n (fst p n)
  | 0, _ => rfl
  | n + 1, hu => by
    have ih := lastf_eq (p := p) (n := n) (fun i j hi hj => hu i j (by omega) (by omega))
    have hle := fst_le p n
    unfold lastf
    by_cases hn : p n = true
    · rw [if_pos hn]
      have h0 : ∀ j, j < n → p j = false := fun j hj => by
        by_cases q : p j = true
        · exact absurd (hu j n (by omega) (by omega) q hn) (by omega)
        · exact Bool.eq_false_iff.mpr q
      rw [fst_some h0 hn (by omega), plI_lt (by omega)]
    · rw [if_neg hn, ih, show fst p (n + 1) = (if fst p n < n then fst p n else if p n then n else n + 1) from rfl]
      by_cases q : fst p n < n
      · rw [if_pos q, plI_lt q, plI_lt (by omega)]
      · rw [if_neg q, if_neg hn, plI_ge (by omega), plI_ge (by omega)]
theorem rPl_last (R : Nat → Nat → Int) (h : Nat) (z : Int) : ∀ n, rPl R h z n = lastf (onS R h z) n
  | 0 => rfl
  | n + 1 => by
    unfold rPl lastf onS
    rw [rPl_last R h z n]
    by_cases q : R 19 (h * 6 + n) = z
    · rw [if_pos q, if_pos (decide_eq_true q)]
    · rw [if_neg q, if_neg (by rw [decide_eq_false q]; decide)]
      rfl
theorem rPl_eq {R : Nat → Nat → Int} (hI : SI R) {h : Nat} (hh : h < 6) (z : Int) : rPl R h z (R 18 h).toNat = plI (shN R h) (pOn R h z) := by
  have hn := hI.hN h hh
  rw [rPl_last, lastf_eq (fun i j hi hj a b => ?_)]
  · rfl
  · exact (hI.one h i h j hh hh (by omega) (by omega) ((of_decide_eq_true a).trans (of_decide_eq_true b).symm)).2
theorem rSh_last {R : Nat → Nat → Int} (hI : SI R) (z : Int) : ∀ n, n ≤ 6 → rSh R z n = lastf (fun h => decide (pOn R h z < shN R h)) n
  | 0, _ => rfl
  | n + 1, hn => by
    unfold rSh lastf
    rw [rSh_last hI z n (by omega), rPl_eq hI (by omega) z]
    by_cases q : pOn R n z < shN R n
    · rw [if_neg (by rw [plI_lt q]; omega), if_pos (decide_eq_true q)]
    · rw [if_pos (plI_ge (by omega)), if_neg (by rw [decide_eq_false q]; decide)]
theorem rSh_eq {R : Nat → Nat → Int} (hI : SI R) (z : Int) : rSh R z 6 = plI 6 (sOf R z) := by
  rw [rSh_last hI z 6 (Nat.le_refl 6), lastf_eq (fun i j hi hj a b => ?_)]
  · rfl
  · have a2 : pOn R i z < shN R i := of_decide_eq_true a
    have b2 : pOn R j z < shN R j := of_decide_eq_true b
    have hn1 := hI.hN i hi
    have hn2 := hI.hN j hj
    have e1 := on_p a2
    have e2 := on_p b2
    unfold shN at a2 b2
    exact (hI.one _ _ _ _ hi hj (by omega) (by omega) (e1.trans e2.symm)).1
theorem rOth_eq {R : Nat → Nat → Int} (hI : SI R) (z : Int) {h : Nat} (hh : h < 6) : rOth R z h = oth R h z := by
  unfold rOth oth
  rw [rSh_eq hI]
  by_cases q : pOn R h z < shN R h
  · have e := sOf_is hI hh q
    rw [if_pos q, e, plI_lt hh, if_pos rfl]
  · rw [if_neg q]
    by_cases s6 : sOf R z < 6
    · rw [plI_lt s6, if_neg (fun w => q (by have e : sOf R z = h := (by omega); rw [← e]; exact sOf_y s6))]
      omega
    · rw [plI_ge (by omega), if_neg (by omega)]
      omega
theorem rCk_eq (R : Nat → Nat → Int) (d : Nat) (y : Int) : ∀ n, rCk R d y n = (decide (R 8 d < 4) && !dIn R d n y)
  | 0 => by unfold rCk dIn anyB; simp
  | n + 1 => by
    unfold rCk
    rw [rCk_eq R d y n]
    unfold dIn
    rw [show anyB (fun k => decide (R 9 (d * 4 + k) = y)) (n + 1) = (anyB (fun k => decide (R 9 (d * 4 + k) = y)) n || decide (R 9 (d * 4 + n) = y)) from rfl, Bool.not_or, decide_not, Bool.and_assoc]
theorem rCs_eq {R : Nat → Nat → Int} (hI : SI R) {t h : Nat} (hh : h < 6) : ∀ n, rCs R t h n = (decide (oth R h t < 6) && !anyB (fun k => decide (¬ hsO R (R 19 (h * 6 + k)).toNat = hsO R t)) n)
  | 0 => by unfold rCs anyB; rw [rOth_eq hI _ hh]; simp
  | n + 1 => by
    unfold rCs
    rw [rCs_eq hI hh n]
    rw [show ∀ p : Nat → Bool, anyB p (n + 1) = (anyB p n || p n) from fun _ => rfl, Bool.not_or, Bool.and_assoc]
    congr 2
    rw [decide_not, Bool.not_not]
    apply decide_eq_decide.mpr
    unfold hsO
    constructor
    · rintro (q | q)
      · rw [q]; rfl
      · exact q
    · exact Or.inr
