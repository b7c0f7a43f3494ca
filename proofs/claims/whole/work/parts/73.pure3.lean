/-! older, decides, casts, bad shelves: the judge's answers are the reference's -/
section OLD
variable {R J : Nat → Nat → Int}
theorem yLF {n : Nat} {lo hi sp : Int} (hlo : 1000 ≤ lo) : (yLast R n lo hi sp = -1 ∧ yFirst R n lo hi sp = -1) ∨ (1000 ≤ yLast R n lo hi sp ∧ 1000 ≤ yFirst R n lo hi sp) := by
  by_cases q : yLi R n lo hi sp < n + 1
  · right
    have h1 : yOk R n lo hi sp (n - yLi R n lo hi sp) = true := fst_lt (p := fun j => yOk R n lo hi sp (n - j)) q
    have h2 : yFrom R lo (n - yLi R n lo hi sp) ≤ yTo R n hi (n - yLi R n lo hi sp) := by
      have h3 := h1
      unfold yOk at h3
      rw [Bool.and_eq_true] at h3
      exact of_decide_eq_true h3.2
    have h4 : yFi R n lo hi sp < n + 1 := by
      rcases Nat.lt_or_ge (yFi R n lo hi sp) (n + 1) with a | a
      · exact a
      · have h5 := fst_before (p := yOk R n lo hi sp) (n := n + 1) (j := n - yLi R n lo hi sp) (Nat.lt_of_lt_of_le (by omega) a)
        rw [h5] at h1
        cases h1
    unfold yLast yFirst
    rw [if_pos q, if_pos h4]
    refine ⟨?_, by unfold yFrom; omega⟩
    unfold yFrom at h2
    omega
  · left
    have h1 : ∀ i, i < n + 1 → yOk R n lo hi sp i = false := fun i hi2 => by
      have h2 := fst_before (p := fun j => yOk R n lo hi sp (n - j)) (n := n + 1) (j := n - i) (Nat.lt_of_lt_of_le (by omega) (Nat.not_lt.mp q))
      have e : n - (n - i) = i := by omega
      rw [e] at h2
      exact h2
    unfold yLast yFirst
    rw [if_neg q]
    unfold yFi
    rw [fst_none h1, if_neg (by omega)]
    exact ⟨rfl, rfl⟩
theorem sl_yr (hI : SI R) {s : Nat} (hs : (s : Int) < R 10 0) : yLast R (R 1 0).toNat (sLo R s) (sHi R s) (sSp R s) = rY R (sLo R s) (sHi R s) (rMask R s) 1 ∧ (rY R (sLo R s) (sHi R s) (rMask R s) 2 = 0 ↔ y0 R s = -1) ∧ ((rY R (sLo R s) (sHi R s) (rMask R s) 1 = -1 ∧ y0 R s = -1) ∨ (1000 ≤ rY R (sLo R s) (sHi R s) (rMask R s) 1 ∧ 1000 ≤ y0 R s)) := by
  have hl := sLo_y hI hs
  obtain ⟨e1, e2, e3⟩ := yr_eq hI hl.1 hl.2 (REL_s hI hs)
  have h := yLF (R := R) (n := (R 1 0).toNat) (hi := sHi R s) (sp := sSp R s) hl.1
  rw [e1, e2] at h
  exact ⟨e2, (rY_no (by omega)).symm, h⟩
theorem older_eq (hI : SI R) (h : SEE R J 6) {s t : Nat} (hs : (s : Int) < R 10 0) (ht : (t : Int) < R 10 0) : (0, if jAh R J s t = true then (s : Int) else if jAh R J t s = true then (t : Int) else -1) = pOlder R s t := by
  obtain ⟨s1, s2, s3, s4, -⟩ := h.1 s hs
  obtain ⟨t1, t2, t3, t4, -⟩ := h.1 t ht
  obtain ⟨a1, a2, a3⟩ := sl_yr hI hs
  obtain ⟨b1, b2, b3⟩ := sl_yr hI ht
  have c1 := y0_eq hI hs
  have c2 := y0_eq hI ht
  unfold pOlder jAh
  rw [if_neg (c := ¬ ((0 ≤ (s : Int) ∧ (s : Int) ≤ R 10 0 - 1) ∧ 0 ≤ (t : Int) ∧ (t : Int) ≤ R 10 0 - 1)) (fun z => z ⟨⟨by omega, by omega⟩, by omega, by omega⟩), Int.toNat_natCast, Int.toNat_natCast, s1, s2, s3, s4, t1, t2, t3, t4, c1, c2, a1, b1, ← Bool.decide_and, ← Bool.decide_and]
  generalize rY R (sLo R s) (sHi R s) (rMask R s) 1 = ls at *
  generalize rY R (sLo R t) (sHi R t) (rMask R t) 1 = lt at *
  generalize y0 R s = fs at *
  generalize y0 R t = ft at *
  congr 1
  by_cases p : fs = -1
  · rw [if_neg (fun z => absurd (of_decide_eq_true z) (by omega)), if_neg (fun z => absurd (of_decide_eq_true z) (by omega)), if_pos (Or.inl (a2.mpr p))]
  · by_cases p2 : ft = -1
    · rw [if_neg (fun z => absurd (of_decide_eq_true z) (by omega)), if_neg (fun z => absurd (of_decide_eq_true z) (by omega)), if_pos (Or.inr (b2.mpr p2))]
    · have n1 : ¬ (rY R (sLo R s) (sHi R s) (rMask R s) 2 = 0 ∨ rY R (sLo R t) (sHi R t) (rMask R t) 2 = 0) := fun z => z.elim (fun y => p (a2.mp y)) (fun y => p2 (b2.mp y))
      rw [if_neg n1]
      by_cases q : ls < ft
      · rw [if_pos (decide_eq_true ⟨by omega, q⟩), if_pos q]
      · rw [if_neg (fun z => q (of_decide_eq_true z).2), if_neg q]
        by_cases q2 : lt < fs
        · rw [if_pos (decide_eq_true ⟨by omega, q2⟩), if_pos q2]
        · rw [if_neg (fun z => q2 (of_decide_eq_true z).2), if_neg q2]
theorem casts_eq (hI : SI R) (h : SEE R J 6) : cnt (jC J) (R 10 0).toNat = rCnt R 4 (R 10 0).toNat := by
  have hs0 := hI.s
  unfold rCnt
  refine cnt_cong (fun k hk => ?_)
  have a := (h.1 k (by omega)).2.2.2.2
  unfold jC cPd
  rw [if_pos rfl, a]
  refine decide_eq_decide.mpr ?_
  unfold rsI ownR
  by_cases q : R 20 (R 12 k).toNat < R 14 k
  · rw [if_pos q]
    rw [if_neg (fun z => by have := z.1; omega)]
    exact ⟨fun _ => q, fun _ => rfl⟩
  · rw [if_neg q]
    constructor
    · intro z
      exfalso
      repeat' split at z
      all_goals omega
    · intro z
      exact absurd z q
theorem badSh_eq (hI : SI R) (h : SEE R J 6) : cnt (fun q => !jGood R J q) 6 = rBad R 6 := by
  unfold rBad
  exact cnt_cong (fun k hk => by rw [jGood_eq hI h hk])
theorem SEE_y (h : SEE R J 6) (hI : SI R) (a b c : Int) : SEE R (yset J 30 a b c) 6 := by
  have hs0 := hI.s
  refine ⟨fun s hs => ?_, fun q hq => ?_⟩
  · rw [ys_o (by omega), ys_o (by omega), ys_o (by omega), ys_o (by omega), ys_o (by omega)]
    exact h.1 s hs
  · rw [ys_o (by omega), ys_o (by omega), ys_o (by omega)]
    exact h.2 q hq
theorem jD_eq (hI : SI R) (h : SEE R J 6) {c s : Nat} (hc : c < 6) (hs : (s : Int) < R 10 0) : jD R J c s = true ↔ (R 16 s = (c : Int) ∧ ownA R s = 0) := by
  have a := (h.1 s hs).2.2.2.2
  have ho := ownR_r R s
  rw [own_eq hI hs]
  unfold jD
  rw [a, Bool.and_eq_true, Bool.or_eq_true, decide_eq_true_eq, decide_eq_true_eq, decide_eq_true_eq]
  unfold rsI
  by_cases b : ownR R s = 0 ∧ 0 ≤ R 16 s ∧ R 16 s < (6 : Nat) ∧ chNo R (R 16 s) = true
  · rw [if_pos b]
    exact ⟨fun z => ⟨z.1, b.1⟩, fun z => ⟨z.1, Or.inr rfl⟩⟩
  · rw [if_neg b]
    exact ⟨fun z => ⟨z.1, by omega⟩, fun z => ⟨z.1, Or.inl z.2⟩⟩
theorem dc_eq (hI : SI R) (h : SEE R J 6) {c : Nat} (hc : c < 6) : ∀ i : Nat, (i : Int) ≤ R 10 0 → SEE R (dcS R J c i).1 6 ∧ (dcS R J c i).2.1 = rDb R c i ∧ (dcS R J c i).2.2 = rDm R c i
  | 0, _ => ⟨h, rfl, rfl⟩
  | i + 1, hi => by
    obtain ⟨i1, i2, i3⟩ := dc_eq hI h hc i (by omega)
    have hj := jD_eq hI i1 hc (s := i) (by omega)
    have hf := foJ_eq (q := c) (w := (i : Int)) hI i1
    have hc2 := (ch_eq hI (c : Int) (i : Int)).2.2
    have hS := SEE_y i1 hI (foL (pJ R (dcS R J c i).1 c i) ((dcS R J c i).1 0) (R 10 0).toNat) (foH (pJ R (dcS R J c i).1 c i) ((dcS R J c i).1 1) (R 10 0).toNat) (foS (pJ R (dcS R J c i).1 c i) ((dcS R J c i).1 2) (R 10 0).toNat)
    have e : yCount R (R 1 0).toNat (foJ (dcS R J c i).1 (pJ R (dcS R J c i).1 c i) (R 10 0).toNat 0 30) (foJ (dcS R J c i).1 (pJ R (dcS R J c i).1 c i) (R 10 0).toNat 1 30) (foJ (dcS R J c i).1 (pJ R (dcS R J c i).1 c i) (R 10 0).toNat 2 30) ((R 1 0).toNat + 1) = rCh R c i 2 := by
      unfold foJ
      rw [ys_0.1, ys_0.2.1, ys_0.2.2, hf.1, hf.2.1, hf.2.2]
      exact hc2
    rw [dcS, rDb, rDm, e, i3]
    by_cases a : jD R (dcS R J c i).1 c i = true
    · rw [if_pos a, if_pos (hj.mp a), if_pos (hj.mp a)]
      by_cases b : rDm R c i < rCh R c i 2
      · rw [if_pos b, if_pos b, if_pos b]
        exact ⟨hS, rfl, rfl⟩
      · rw [if_neg b, if_neg b, if_neg b]
        exact ⟨hS, i2, i3⟩
    · rw [if_neg a, if_neg (fun z => a (hj.mpr z)), if_neg (fun z => a (hj.mpr z))]
      exact ⟨i1, i2, i3⟩
end OLD
