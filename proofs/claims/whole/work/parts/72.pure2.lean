/-! what the judge counts is what the reference counts -/
theorem sumZ_one {f : Nat → Int} {k : Nat} {v : Int} : ∀ {n : Nat}, (∀ i, i < n → f i = if i = k then v else 0) → sumZ f n = if k < n then v else 0
  | 0, _ => by
    rw [if_neg (by omega)]
    rfl
  | n + 1, h => by
    have ih := sumZ_one (n := n) (fun i hi => h i (by omega))
    show sumZ f n + f n = _
    rw [ih, h n (by omega)]
    by_cases a : k < n
    · rw [if_pos a, if_neg (by omega), if_pos (by omega)]
      omega
    · rw [if_neg a]
      by_cases b : n = k
      · rw [if_pos b, if_pos (by omega)]
        omega
      · rw [if_neg b, if_neg (by omega)]
        omega
section HAS
variable {R : Nat → Nat → Int}
theorem kSp_at {n : Nat} {y : Int} : kSpan R n y ≤ n ∧ (∀ j, j < kSpan R n y → R 2 j ≤ y) ∧ (kSpan R n y < n → y < R 2 (kSpan R n y)) := by
  unfold kSpan
  refine ⟨fst_le _ n, fun j hj => ?_, fun h => ?_⟩
  · have := fst_before (p := fun i => decide (y < R 2 i)) (n := n) hj
    have := of_decide_eq_false this
    omega
  · exact of_decide_eq_true (fst_lt (p := fun i => decide (y < R 2 i)) (n := n) h)
theorem y1_ok (hI : SI R) {y sp : Int} (hy : 1000 ≤ y ∧ y ≤ 1999) {i : Nat} (hi : i < (R 1 0).toNat + 1) : (if yOk R (R 1 0).toNat y y sp i = true then yTo R (R 1 0).toNat y i - yFrom R y i + 1 else 0) = if i = kSpan R (R 1 0).toNat y then (if zbit sp (kSpan R (R 1 0).toNat y) = true then (1 : Int) else 0) else 0 := by
  have hr := hI.r
  obtain ⟨k1, k2, k3⟩ := kSp_at (R := R) (n := (R 1 0).toNat) (y := y)
  generalize kSpan R (R 1 0).toNat y = k at k1 k2 k3 ⊢
  unfold yOk yTo yFrom
  by_cases e : i = k
  · subst e
    rw [if_pos rfl]
    have f1 : kFirst R i ≤ y := by
      unfold kFirst
      split
      · omega
      · exact k2 (i - 1) (by omega)
    have f2 : y ≤ kLast R (R 1 0).toNat i := by
      unfold kLast
      split
      · omega
      · have := k3 (by omega)
        omega
    rw [decide_eq_true (by omega), Bool.and_true]
    split
    · omega
    · rfl
  · rw [if_neg e]
    have f3 : ¬ max y (kFirst R i) ≤ min y (kLast R (R 1 0).toNat i) := by
      rcases Nat.lt_or_ge i k with a | a
      · have h1 := k2 i a
        have h2 : kLast R (R 1 0).toNat i = R 2 i - 1 := if_neg (by omega)
        omega
      · have h1 := k3 (by omega)
        have h2 : kFirst R i = R 2 (i - 1) := if_neg (by omega)
        have h3 : R 2 k ≤ R 2 (i - 1) := by
          by_cases b : k = i - 1
          · rw [b]
            exact Int.le_refl _
          · have := hI.inc k (i - 1) (by omega) (by omega)
            omega
        omega
    rw [decide_eq_false f3, Bool.and_false]
    rfl
theorem y1_c (hI : SI R) {y sp : Int} (hy : 1000 ≤ y ∧ y ≤ 1999) : yCount R (R 1 0).toNat y y sp ((R 1 0).toNat + 1) = if zbit sp (kSpan R (R 1 0).toNat y) = true then 1 else 0 := by
  unfold yCount
  have k1 := (kSp_at (R := R) (n := (R 1 0).toNat) (y := y)).1
  rw [sumZ_one (fun i hi => y1_ok hI hy hi), if_pos (by omega)]
theorem has_eq (hI : SI R) {s : Nat} (hs : (s : Int) < R 10 0) {y : Int} (hy : 1000 ≤ y ∧ y ≤ 1999) : yHas R (R 1 0).toNat (sLo R s) (sHi R s) (sSp R s) y = rCan R s y := by
  have h1 := (yr_eq hI hy.1 hy.2 (REL_s hI hs)).2.2
  rw [y1_c hI hy] at h1
  unfold yHas rCan
  rw [← h1]
  congr 1
  by_cases z : zbit (sSp R s) (kSpan R (R 1 0).toNat y) = true
  · rw [if_pos z, z]
    rfl
  · rw [if_neg z, Bool.eq_false_iff.mpr z]
    rfl
end HAS
section CNT
variable {R J : Nat → Nat → Int}
theorem j3_eq (hI : SI R) (h : SEE R J 6) {s : Nat} (hs : s < (R 10 0).toNat) : J 3 s = rFk R s ∧ 0 ≤ rFk R s := by
  have hs0 := hI.s
  have hb := rFk_b R s
  exact ⟨((h.1 s (by omega)).2.2.2.2).trans (fk_eq hI (by omega)).symm, by omega⟩
theorem jF_eq (hI : SI R) (h : SEE R J 6) : cnt (jF J) (R 10 0).toNat = rFks R (R 10 0).toNat := by
  unfold rFks
  refine cnt_cong (fun k hk => decide_eq_decide.mpr ?_)
  obtain ⟨a, b⟩ := j3_eq hI h hk
  rw [a]
  omega
theorem jFD_eq (hI : SI R) (h : SEE R J 6) (d : Int) : cnt (jFD R J d) (R 10 0).toNat = rDf R d 1 (R 10 0).toNat := by
  unfold rDf
  refine cnt_cong (fun k hk => ?_)
  obtain ⟨a, b⟩ := j3_eq hI h hk
  unfold jFD
  rw [a, ← Bool.decide_and]
  exact decide_eq_decide.mpr (by omega)
theorem jFC_eq (hI : SI R) (h : SEE R J 6) (c : Int) : cnt (jFC R J c) (R 10 0).toNat = rFo R c (R 10 0).toNat := by
  unfold rFo
  refine cnt_cong (fun k hk => ?_)
  obtain ⟨a, b⟩ := j3_eq hI h hk
  unfold jFC
  rw [a, ← Bool.decide_and]
  exact decide_eq_decide.mpr (by omega)
theorem jCF_eq (hI : SI R) (h : SEE R J 6) : cnt (jCF R J) 6 = rBc R 6 := by
  unfold rBc
  refine cnt_cong (fun k hk => ?_)
  unfold jCF
  rw [jFC_eq hI h]
theorem jG_eq (hI : SI R) (h : SEE R J 6) {y : Int} (hy : 1000 ≤ y ∧ y ≤ 1999) : cnt (jG R J y) (R 10 0).toNat = rIn R y (R 10 0).toNat := by
  have hs0 := hI.s
  unfold rIn
  refine cnt_cong (fun k hk => ?_)
  obtain ⟨a, b⟩ := j3_eq hI h hk
  obtain ⟨d1, d2, d3, -, -⟩ := h.1 k (by omega)
  unfold jG
  rw [a, d1, d2, d3, has_eq hI (by omega) hy]
theorem y0_ge1 (hI : SI R) {s : Nat} (hs : (s : Int) < R 10 0) (h0 : rFk R s = 0) : 1000 ≤ y0 R s := by
  have hl := (sLo_y hI hs).1
  rw [fk_eq hI hs] at h0
  rw [← y0_eq hI hs]
  have ho : ownR R s = 0 := by
    have := ownR_r R s
    unfold rsn rsI at h0
    split at h0 <;> omega
  have hf : ¬ sFirst R s = -1 := by
    intro z
    unfold ownR at ho
    rw [if_pos z] at ho
    split at ho
    · omega
    · split at ho <;> omega
  unfold sFirst yFirst at hf ⊢
  split at hf
  · rename_i q
    rw [if_pos q]
    unfold yFrom
    omega
  · exact absurd rfl hf
/-- a shelf in order -/
theorem jGood_eq (hI : SI R) (h : SEE R J 6) {q : Nat} (hq : q < 6) : jGood R J q = rIs R q (R 18 q).toNat := by
  have hn := hI.hN q hq
  have key : ∀ m, m ≤ (R 18 q).toNat → (!anyB (gBad R J q) m) = rIs R q m ∧ (rIs R q m = true → gLat R J q m = max 1000 (rBf R q m)) := fun m => by
    induction m with
    | zero => exact fun _ => ⟨rfl, fun _ => rfl⟩
    | succ m ih =>
      intro hm
      obtain ⟨i1, i2⟩ := ih (by omega)
      have hk := hI.on q m hq (by omega)
      have hs : (R 19 (q * 6 + m)).toNat < (R 10 0).toNat := by
        have hs0 := hI.s
        omega
      obtain ⟨a, b⟩ := j3_eq hI h hs
      have a4 := (h.1 (R 19 (q * 6 + m)).toNat (by omega)).2.2.2.1
      have e0 := y0_eq hI (s := (R 19 (q * 6 + m)).toNat) (by omega)
      show (!(anyB (gBad R J q) m || gBad R J q m)) = (if rFk R (R 19 (q * 6 + m)).toNat = 0 then (rIs R q m && decide (rBf R q m ≤ y0 R (R 19 (q * 6 + m)).toNat)) else rIs R q m) ∧ ((if rFk R (R 19 (q * 6 + m)).toNat = 0 then (rIs R q m && decide (rBf R q m ≤ y0 R (R 19 (q * 6 + m)).toNat)) else rIs R q m) = true → (if J 3 (gAt R q m) = 0 then J 4 (gAt R q m) else gLat R J q m) = max 1000 (if rFk R (R 19 (q * 6 + m)).toNat = 0 then (if rBf R q m < y0 R (R 19 (q * 6 + m)).toNat then y0 R (R 19 (q * 6 + m)).toNat else rBf R q m) else rBf R q m))
      have g1 : gBad R J q m = (decide (rFk R (R 19 (q * 6 + m)).toNat = 0) && decide (y0 R (R 19 (q * 6 + m)).toNat < gLat R J q m)) := by
        unfold gBad gAt
        rw [a, a4, e0]
      rw [g1]
      unfold gAt
      rw [a, a4, e0]
      by_cases z : rFk R (R 19 (q * 6 + m)).toNat = 0
      · have hy := y0_ge1 hI (s := (R 19 (q * 6 + m)).toNat) (by omega) z
        rw [if_pos z, if_pos z, if_pos z, decide_eq_true z, Bool.true_and, Bool.not_or, i1]
        by_cases w : rIs R q m = true
        · rw [w, i2 w, Bool.true_and, Bool.true_and]
          by_cases v : rBf R q m ≤ y0 R (R 19 (q * 6 + m)).toNat
          · rw [decide_eq_true v, decide_eq_false (by omega)]
            refine ⟨rfl, fun _ => ?_⟩
            split <;> omega
          · rw [decide_eq_false v, decide_eq_true (by omega)]
            exact ⟨rfl, fun y => by cases y⟩
        · rw [Bool.eq_false_iff.mpr w, Bool.false_and, Bool.false_and]
          exact ⟨rfl, fun y => by cases y⟩
      · rw [if_neg z, if_neg z, if_neg z, decide_eq_false z, Bool.false_and, Bool.or_false]
        exact ⟨i1, i2⟩
  exact (key _ (Nat.le_refl _)).1
end CNT
