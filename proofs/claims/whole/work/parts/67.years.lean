/-! the class's years are the reference's -/
theorem fst_sh {p : Nat → Bool} (h : p 0 = false) : ∀ n, fst p (n + 1) = fst (fun r => p (r + 1)) n + 1
  | 0 => by
    show (if fst p 0 < 0 then fst p 0 else if p 0 then 0 else 1) = 1
    rw [if_neg (by omega), h]
    rfl
  | n + 1 => by
    have ih := fst_sh h n
    show (if fst p (n + 1) < n + 1 then fst p (n + 1) else if p (n + 1) then n + 1 else n + 1 + 1) = (if fst (fun r => p (r + 1)) n < n then fst (fun r => p (r + 1)) n else if p (n + 1) then n else n + 1) + 1
    rw [ih]
    have hle := fst_le (fun r => p (r + 1)) n
    by_cases q : fst (fun r => p (r + 1)) n < n
    · rw [if_pos q, if_pos (by omega)]
    · rw [if_neg q, if_neg (by omega)]
      split <;> rfl
theorem sumZ_sh (f : Nat → Int) : ∀ n, sumZ f (n + 1) = f 0 + sumZ (fun r => f (r + 1)) n
  | 0 => by
    show 0 + f 0 = f 0 + 0
    omega
  | n + 1 => by
    have ih := sumZ_sh f n
    show sumZ f (n + 1) + f (n + 1) = f 0 + (sumZ (fun r => f (r + 1)) n + f (n + 1))
    rw [ih]
    omega
theorem sumZ_cg {f h : Nat → Int} : ∀ {n : Nat}, (∀ i, i < n → f i = h i) → sumZ f n = sumZ h n
  | 0, _ => rfl
  | n + 1, e => by
    show sumZ f n + f n = sumZ h n + h n
    rw [sumZ_cg (fun i hi => e i (by omega)), e n (by omega)]
/-- a set of spans and the colours that are asked for -/
def REL (R : Nat → Nat → Int) (sp w : Int) : Prop := (w = 0 ∧ ∀ i, i ≤ (R 1 0).toNat → zbit sp i = true) ∨ (¬ w = 0 ∧ 0 ≤ w ∧ w < 256 ∧ zbit sp 0 = false ∧ ∀ r, r < (R 1 0).toNat → zbit sp (r + 1) = decide (zand (R 3 r) w = w))
section YRS
variable {R : Nat → Nat → Int} {lo hi sp w : Int}
theorem kL_s {r : Nat} : kFirst R (r + 1) = R 2 r := by
  unfold kFirst
  rw [if_neg (by omega)]
  rfl
theorem yOk_s (hw : ¬ w = 0) (hb : ∀ r, r < (R 1 0).toNat → zbit sp (r + 1) = decide (zand (R 3 r) w = w)) {r : Nat} (hr : r < (R 1 0).toNat) : yOk R (R 1 0).toNat lo hi sp (r + 1) = rOk R lo hi w r ∧ yFrom R lo (r + 1) = rFr R lo w r ∧ yTo R (R 1 0).toNat hi (r + 1) = rTo R hi w r := by
  have e1 : yFrom R lo (r + 1) = rFr R lo w r := by
    unfold yFrom rFr
    rw [kL_s]
    by_cases q : lo < R 2 r
    · rw [if_pos ⟨hw, q⟩]; omega
    · rw [if_neg (fun z => q z.2)]; omega
  have e2 : yTo R (R 1 0).toNat hi (r + 1) = rTo R hi w r := by
    unfold yTo rTo
    by_cases q : kLast R (R 1 0).toNat (r + 1) < hi
    · rw [if_pos ⟨hw, q⟩]; omega
    · rw [if_neg (fun z => q z.2)]; omega
  refine ⟨?_, e1, e2⟩
  unfold yOk rOk
  rw [e1, e2, hb r hr, decide_eq_false hw, Bool.false_or, Bool.and_comm]
theorem rF_fst (hlo : 0 ≤ lo) (hB : HB R) : ∀ i, rF R lo hi w i = if fst (rOk R lo hi w) i < i then rFr R lo w (fst (rOk R lo hi w) i) else -1
  | 0 => rfl
  | i + 1 => by
    have ih := rF_fst hlo hB i
    have hle := fst_le (rOk R lo hi w) i
    have hne : ∀ k, ¬ rFr R lo w k = -1 := fun k => by
      unfold rFr
      split <;> omega
    unfold rF
    rw [ih, show fst (rOk R lo hi w) (i + 1) = (if fst (rOk R lo hi w) i < i then fst (rOk R lo hi w) i else if rOk R lo hi w i then i else i + 1) from rfl]
    by_cases q : fst (rOk R lo hi w) i < i
    · rw [if_pos q, if_pos q, if_neg (fun z => hne _ z.2), if_pos (by omega)]
    · rw [if_neg q, if_neg q]
      by_cases q2 : rOk R lo hi w i = true
      · rw [if_pos ⟨q2, rfl⟩, if_pos q2, if_pos (by omega)]
      · rw [if_neg (fun z => q2 z.1), if_neg q2, if_neg (by omega)]
theorem rC_sum : ∀ i, rC R lo hi w i = sumZ (fun r => if rOk R lo hi w r = true then rTo R hi w r - rFr R lo w r + 1 else 0) i
  | 0 => rfl
  | i + 1 => by
    show rC R lo hi w i + _ = sumZ _ i + _
    rw [rC_sum i]
theorem rL_rev {q : Nat → Bool} {T : Nat → Int} {n : Nat} (h0 : q 0 = false) (hq : ∀ r, r < n → q (r + 1) = rOk R lo hi w r) (hT : ∀ r, r < n → T (r + 1) = rTo R hi w r) : ∀ m, m ≤ n → (if fst (fun j => q (m - j)) (m + 1) < m + 1 then T (m - fst (fun j => q (m - j)) (m + 1)) else -1) = rL R lo hi w m
  | 0, _ => by
    have e : fst (fun j => q (0 - j)) 1 = 1 := fst_none (fun j hj => by
      have : j = 0 := by omega
      subst this; exact h0)
    rw [e, if_neg (by omega)]
    rfl
  | m + 1, hm => by
    have ih := rL_rev h0 hq hT m (by omega)
    unfold rL
    by_cases a : rOk R lo hi w m = true
    · have e : fst (fun j => q (m + 1 - j)) (m + 1 + 1) = 0 := fst_some (fun j hj => by omega) (by show q (m + 1 - 0) = true; rw [Nat.sub_zero, hq m (by omega)]; exact a) (by omega)
      rw [e, if_pos (by omega), if_pos a, Nat.sub_zero, hT m (by omega)]
    · have p0 : (fun j => q (m + 1 - j)) 0 = false := by
        show q (m + 1 - 0) = false
        rw [Nat.sub_zero, hq m (by omega)]
        exact Bool.eq_false_iff.mpr a
      have e := fst_sh (p := fun j => q (m + 1 - j)) p0 (m + 1)
      have e2 : (fun r => (fun j => q (m + 1 - j)) (r + 1)) = fun j => q (m - j) := by
        funext r
        show q (m + 1 - (r + 1)) = q (m - r)
        rw [Nat.add_sub_add_right]
      rw [e2] at e
      rw [e, if_neg a, ← ih]
      by_cases q3 : fst (fun j => q (m - j)) (m + 1) < m + 1
      · rw [if_pos q3, if_pos (by omega), Nat.add_sub_add_right]
      · rw [if_neg q3, if_neg (by omega)]
theorem span_f (hI : SI R) {i : Nat} (hi2 : i < (R 1 0).toNat) : kFirst R (i + 1) = kLast R (R 1 0).toNat i + 1 ∧ kFirst R i ≤ kFirst R (i + 1) ∧ kFirst R (i + 1) ≤ 1999 := by
  have hr := hI.r
  have h1 := hI.rg i (by omega)
  rw [kL_s]
  unfold kLast
  rw [if_neg (by omega)]
  refine ⟨by omega, ?_, h1.2.1⟩
  unfold kFirst
  split
  · omega
  · have := hI.inc (i - 1) i (by omega) (by omega)
    omega
theorem kLast_n (n : Nat) : kLast R n n = 1999 := if_pos rfl
theorem kF_le (hI : SI R) : ∀ i, i ≤ (R 1 0).toNat → kFirst R i ≤ 1999
  | 0, _ => by unfold kFirst; rw [if_pos rfl]; omega
  | i + 1, h => (span_f hI (i := i) (by omega)).2.2
/-- all spans: the years from lo to hi -/
theorem yCount_all (hI : SI R) (hlo : 1000 ≤ lo) (hhi : hi ≤ 1999) (hs : ∀ i, i ≤ (R 1 0).toNat → zbit sp i = true) : ∀ m, m ≤ (R 1 0).toNat → yCount R (R 1 0).toNat lo hi sp m = max 0 (min hi (kFirst R m - 1) - lo + 1)
  | 0, _ => by
    show (0 : Int) = max 0 (min hi (kFirst R 0 - 1) - lo + 1)
    unfold kFirst
    rw [if_pos rfl]
    omega
  | m + 1, h => by
    have ih := yCount_all hI hlo hhi hs m (by omega)
    obtain ⟨s1, s2, s3⟩ := span_f hI (i := m) (by omega)
    show yCount R (R 1 0).toNat lo hi sp m + (if yOk R (R 1 0).toNat lo hi sp m = true then yTo R (R 1 0).toNat hi m - yFrom R lo m + 1 else 0) = _
    rw [ih]
    unfold yOk yTo yFrom
    rw [hs m (by omega), Bool.true_and]
    by_cases q : max lo (kFirst R m) ≤ min hi (kLast R (R 1 0).toNat m)
    · rw [if_pos (decide_eq_true q)]
      omega
    · rw [if_neg (by rw [decide_eq_false q]; decide)]
      omega
theorem yCount_all2 (hI : SI R) (hlo : 1000 ≤ lo) (hhi : hi ≤ 1999) (hs : ∀ i, i ≤ (R 1 0).toNat → zbit sp i = true) : yCount R (R 1 0).toNat lo hi sp ((R 1 0).toNat + 1) = if lo ≤ hi then hi - lo + 1 else 0 := by
  have ih := yCount_all hI hlo hhi hs (R 1 0).toNat (Nat.le_refl _)
  have hk := kF_le hI (R 1 0).toNat (Nat.le_refl _)
  show yCount R (R 1 0).toNat lo hi sp (R 1 0).toNat + (if yOk R (R 1 0).toNat lo hi sp (R 1 0).toNat = true then yTo R (R 1 0).toNat hi (R 1 0).toNat - yFrom R lo (R 1 0).toNat + 1 else 0) = _
  rw [ih]
  unfold yOk yTo yFrom
  rw [hs _ (Nat.le_refl _), Bool.true_and, kLast_n]
  by_cases q : max lo (kFirst R (R 1 0).toNat) ≤ min hi 1999
  · rw [if_pos (decide_eq_true q)]
    split <;> omega
  · rw [if_neg (by rw [decide_eq_false q]; decide)]
    split <;> omega
theorem yFirst_all (hI : SI R) (hlo : 1000 ≤ lo) (hhi : hi ≤ 1999) (hs : ∀ i, i ≤ (R 1 0).toNat → zbit sp i = true) : yFirst R (R 1 0).toNat lo hi sp = if lo ≤ hi then lo else -1 := by
  have hok : ∀ i, i ≤ (R 1 0).toNat → (yOk R (R 1 0).toNat lo hi sp i = true ↔ max lo (kFirst R i) ≤ min hi (kLast R (R 1 0).toNat i)) := fun i hi2 => by
    unfold yOk yTo yFrom
    rw [hs i hi2, Bool.true_and, decide_eq_true_iff]
  unfold yFirst
  by_cases q : yFi R (R 1 0).toNat lo hi sp < (R 1 0).toNat + 1
  · have h1 : yOk R (R 1 0).toNat lo hi sp (yFi R (R 1 0).toNat lo hi sp) = true := fst_lt q
    have h2 := (hok _ (by omega)).mp h1
    have hlh : lo ≤ hi := by omega
    have inv : ∀ j, j ≤ yFi R (R 1 0).toNat lo hi sp → kFirst R j ≤ lo := by
      intro j
      induction j with
      | zero => intro _; unfold kFirst; rw [if_pos rfl]; exact hlo
      | succ j ih =>
        intro hj
        have h3 := ih (by omega)
        have h4 : yOk R (R 1 0).toNat lo hi sp j = false := fst_before (n := (R 1 0).toNat + 1) (show j < fst (yOk R (R 1 0).toNat lo hi sp) ((R 1 0).toNat + 1) from by unfold yFi at hj; omega)
        have h5 : ¬ max lo (kFirst R j) ≤ min hi (kLast R (R 1 0).toNat j) := fun z => by
          have := (hok j (by omega)).mpr z
          rw [h4] at this
          cases this
        have h6 := (span_f hI (i := j) (by omega)).1
        omega
    have h7 := inv _ (Nat.le_refl _)
    rw [if_pos q, if_pos hlh]
    unfold yFrom
    omega
  · rw [if_neg q]
    by_cases hlh : lo ≤ hi
    · exfalso
      have hno : ∀ j, j ≤ (R 1 0).toNat → yOk R (R 1 0).toNat lo hi sp j = false := fun j hj => fst_before (n := (R 1 0).toNat + 1) (show j < fst (yOk R (R 1 0).toNat lo hi sp) ((R 1 0).toNat + 1) from by unfold yFi at q; omega)
      have inv : ∀ j, j ≤ (R 1 0).toNat → kFirst R j ≤ lo := by
        intro j
        induction j with
        | zero => intro _; unfold kFirst; rw [if_pos rfl]; exact hlo
        | succ j ih =>
          intro hj
          have h3 := ih (by omega)
          have h4 := hno j (by omega)
          have h5 : ¬ max lo (kFirst R j) ≤ min hi (kLast R (R 1 0).toNat j) := fun z => by
            have := (hok j (by omega)).mpr z
            rw [h4] at this
            cases this
          have h6 := (span_f hI (i := j) (by omega)).1
          omega
      have h7 := inv _ (Nat.le_refl _)
      have h8 := hno _ (Nat.le_refl _)
      have h9 := (hok _ (Nat.le_refl _)).mpr (by rw [kLast_n]; omega)
      rw [h8] at h9
      cases h9
    · rw [if_neg hlh]
theorem yLast_all (hI : SI R) (hlo : 1000 ≤ lo) (hhi : hi ≤ 1999) (hs : ∀ i, i ≤ (R 1 0).toNat → zbit sp i = true) : yLast R (R 1 0).toNat lo hi sp = if lo ≤ hi then hi else -1 := by
  have hok : ∀ i, i ≤ (R 1 0).toNat → (yOk R (R 1 0).toNat lo hi sp i = true ↔ max lo (kFirst R i) ≤ min hi (kLast R (R 1 0).toNat i)) := fun i hi2 => by
    unfold yOk yTo yFrom
    rw [hs i hi2, Bool.true_and, decide_eq_true_iff]
  have step : ∀ j, j < (R 1 0).toNat → hi ≤ kLast R (R 1 0).toNat ((R 1 0).toNat - j) → lo ≤ hi → yOk R (R 1 0).toNat lo hi sp ((R 1 0).toNat - j) = false → hi ≤ kLast R (R 1 0).toNat ((R 1 0).toNat - (j + 1)) := fun j hj h1 hlh h4 => by
    have h5 : ¬ max lo (kFirst R ((R 1 0).toNat - j)) ≤ min hi (kLast R (R 1 0).toNat ((R 1 0).toNat - j)) := fun z => by
      have := (hok _ (by omega)).mpr z
      rw [h4] at this
      cases this
    have h6 := (span_f hI (i := (R 1 0).toNat - (j + 1)) (by omega)).1
    rw [show (R 1 0).toNat - (j + 1) + 1 = (R 1 0).toNat - j from by omega] at h6
    omega
  unfold yLast
  by_cases q : yLi R (R 1 0).toNat lo hi sp < (R 1 0).toNat + 1
  · have h1 : yOk R (R 1 0).toNat lo hi sp ((R 1 0).toNat - yLi R (R 1 0).toNat lo hi sp) = true := fst_lt (p := fun j => yOk R (R 1 0).toNat lo hi sp ((R 1 0).toNat - j)) q
    have h2 := (hok _ (by omega)).mp h1
    have hlh : lo ≤ hi := by omega
    have inv : ∀ j, j ≤ yLi R (R 1 0).toNat lo hi sp → hi ≤ kLast R (R 1 0).toNat ((R 1 0).toNat - j) := by
      intro j
      induction j with
      | zero => intro _; rw [Nat.sub_zero, kLast_n]; exact hhi
      | succ j ih =>
        intro hj
        exact step j (by omega) (ih (by omega)) hlh (fst_before (p := fun j => yOk R (R 1 0).toNat lo hi sp ((R 1 0).toNat - j)) (n := (R 1 0).toNat + 1) (by unfold yLi at hj; omega))
    have h7 := inv _ (Nat.le_refl _)
    rw [if_pos q, if_pos hlh]
    unfold yTo
    omega
  · rw [if_neg q]
    by_cases hlh : lo ≤ hi
    · exfalso
      have hno : ∀ j, j ≤ (R 1 0).toNat → yOk R (R 1 0).toNat lo hi sp ((R 1 0).toNat - j) = false := fun j hj => fst_before (p := fun j => yOk R (R 1 0).toNat lo hi sp ((R 1 0).toNat - j)) (n := (R 1 0).toNat + 1) (by unfold yLi at q; omega)
      have inv : ∀ j, j ≤ (R 1 0).toNat → hi ≤ kLast R (R 1 0).toNat ((R 1 0).toNat - j) := by
        intro j
        induction j with
        | zero => intro _; rw [Nat.sub_zero, kLast_n]; exact hhi
        | succ j ih =>
          intro hj
          exact step j (by omega) (ih (by omega)) hlh (hno j (by omega))
      have h7 := inv _ (Nat.le_refl _)
      have h8 := hno _ (Nat.le_refl _)
      have h9 := (hok _ (show (R 1 0).toNat - (R 1 0).toNat ≤ (R 1 0).toNat from by omega)).mpr (by rw [Nat.sub_self] at h7 ⊢; unfold kFirst; rw [if_pos rfl]; omega)
      rw [h8] at h9
      cases h9
    · rw [if_neg hlh]
/-- the three questions -/
theorem yr_eq (hI : SI R) (hlo : 1000 ≤ lo) (hhi : hi ≤ 1999) (h : REL R sp w) : yFirst R (R 1 0).toNat lo hi sp = rY R lo hi w 0 ∧ yLast R (R 1 0).toNat lo hi sp = rY R lo hi w 1 ∧ yCount R (R 1 0).toNat lo hi sp ((R 1 0).toNat + 1) = rY R lo hi w 2 := by
  have hB := hI.hB
  rcases h with ⟨hw, hs⟩ | ⟨hw, hw0, hw1, h0, hb⟩
  · subst hw
    have hok : rOk R lo hi 0 0 = decide (lo ≤ hi) := by
      unfold rOk rFr rTo
      rw [if_neg (fun z => z.1 rfl), if_neg (fun z => z.1 rfl), decide_eq_true rfl, Bool.true_or, Bool.and_true]
    have hfr : rFr R lo 0 0 = lo := if_neg (fun z => z.1 rfl)
    have hto : rTo R hi 0 0 = hi := if_neg (fun z => z.1 rfl)
    refine ⟨?_, ?_, ?_⟩
    · rw [yFirst_all hI hlo hhi hs]
      show _ = rF R lo hi 0 1
      show _ = if rOk R lo hi 0 0 = true ∧ (-1 : Int) = -1 then rFr R lo 0 0 else -1
      rw [hok, hfr]
      by_cases q : lo ≤ hi
      · rw [if_pos q, if_pos ⟨decide_eq_true q, rfl⟩]
      · rw [if_neg q, if_neg (fun z => q (of_decide_eq_true z.1))]
    · rw [yLast_all hI hlo hhi hs]
      show _ = if rOk R lo hi 0 0 = true then rTo R hi 0 0 else -1
      rw [hok, hto]
      by_cases q : lo ≤ hi
      · rw [if_pos q, if_pos (decide_eq_true q)]
      · rw [if_neg q, if_neg (fun z => q (of_decide_eq_true z))]
    · rw [yCount_all2 hI hlo hhi hs]
      show _ = (0 : Int) + if rOk R lo hi 0 0 = true then rTo R hi 0 0 - rFr R lo 0 0 + 1 else 0
      rw [hok, hto, hfr]
      by_cases q : lo ≤ hi
      · rw [if_pos q, if_pos (decide_eq_true q)]; omega
      · rw [if_neg q, if_neg (fun z => q (of_decide_eq_true z))]; omega
  · have hn : rN R w = (R 1 0).toNat := if_neg hw
    have hy0 : yOk R (R 1 0).toNat lo hi sp 0 = false := by
      unfold yOk
      rw [h0, Bool.false_and]
    refine ⟨?_, ?_, ?_⟩
    · show _ = rF R lo hi w (rN R w)
      rw [hn, rF_fst (by omega) hB]
      have e1 : fst (fun r => yOk R (R 1 0).toNat lo hi sp (r + 1)) (R 1 0).toNat = fst (rOk R lo hi w) (R 1 0).toNat := fst_cong (fun k hk => (yOk_s hw hb hk).1)
      have e2 : yFi R (R 1 0).toNat lo hi sp = fst (rOk R lo hi w) (R 1 0).toNat + 1 := by
        unfold yFi
        rw [fst_sh hy0, e1]
      unfold yFirst
      rw [e2]
      by_cases q : fst (rOk R lo hi w) (R 1 0).toNat < (R 1 0).toNat
      · rw [if_pos q, if_pos (by omega)]
        exact (yOk_s (lo := lo) (hi := hi) hw hb q).2.1
      · rw [if_neg q, if_neg (by omega)]
    · show _ = rL R lo hi w (rN R w)
      rw [hn]
      exact rL_rev (q := yOk R (R 1 0).toNat lo hi sp) (T := yTo R (R 1 0).toNat hi) hy0 (fun r hr => (yOk_s (lo := lo) (hi := hi) hw hb hr).1) (fun r hr => (yOk_s (lo := lo) (hi := hi) hw hb hr).2.2) _ (Nat.le_refl _)
    · show _ = rC R lo hi w (rN R w)
      rw [hn, rC_sum]
      unfold yCount
      rw [sumZ_sh, hy0, if_neg (by decide), Int.zero_add]
      exact sumZ_cg (fun r hr => by
        obtain ⟨a1, a2, a3⟩ := yOk_s (lo := lo) (hi := hi) hw hb hr
        rw [a1, a2, a3])
theorem rFC (hlo : 0 ≤ lo) : ∀ i, 0 ≤ rC R lo hi w i ∧ (rF R lo hi w i = -1 ↔ rC R lo hi w i = 0)
  | 0 => ⟨Int.le_refl _, ⟨fun _ => rfl, fun _ => rfl⟩⟩
  | i + 1 => by
    have ih := rFC hlo i
    have hne : ¬ rFr R lo w i = -1 := by
      unfold rFr
      split <;> omega
    unfold rF rC
    by_cases q : rOk R lo hi w i = true
    · have h1 : rFr R lo w i ≤ rTo R hi w i := by
        unfold rOk at q
        exact of_decide_eq_true (Bool.and_eq_true_iff.mp q).1
      rw [if_pos q]
      by_cases q2 : rF R lo hi w i = -1
      · rw [if_pos ⟨q, q2⟩]
        omega
      · rw [if_neg (fun z => q2 z.2)]
        have := fun z => q2 (ih.2.mpr z)
        omega
    · rw [if_neg q, if_neg (fun z => q z.1), Int.add_zero]
      exact ih
theorem rY_no (hlo : 0 ≤ lo) : rY R lo hi w 0 = -1 ↔ rY R lo hi w 2 = 0 := (rFC hlo (rN R w)).2
end YRS
theorem tb_and (a b k : Nat) : (a &&& b).testBit k = (a.testBit k && b.testBit k) := Nat.testBit_and a b k
theorem zbit_and (a b : Int) (k : Nat) : zbit (zand a b) k = (zbit a k && zbit b k) := by
  unfold zbit zand
  rw [Int.toNat_natCast]
  exact Nat.testBit_and _ _ _
theorem nat_sub {x w : Nat} : x &&& w = w ↔ ∀ k, w.testBit k = true → x.testBit k = true := by
  constructor
  · intro h k hk
    rw [← h, Nat.testBit_and, Bool.and_eq_true_iff] at hk
    exact hk.1
  · intro h
    refine Nat.eq_of_testBit_eq fun k => ?_
    rw [Nat.testBit_and]
    by_cases q : w.testBit k = true
    · rw [q, h k q]; rfl
    · rw [Bool.eq_false_iff.mpr q, Bool.and_false]
theorem zand_w {x w : Int} (hw : 0 ≤ w) : zand x w = w ↔ ∀ k, w.toNat.testBit k = true → x.toNat.testBit k = true := by
  rw [← nat_sub]
  unfold zand
  omega
theorem zor_nz {a b : Int} (ha : 0 ≤ a) (hb : 0 ≤ b) : zor a b = 0 ↔ a = 0 ∧ b = 0 := by
  unfold zor
  constructor
  · intro h
    have h1 : a.toNat ≤ a.toNat ||| b.toNat := Nat.left_le_or
    have h2 : b.toNat ≤ a.toNat ||| b.toNat := Nat.right_le_or
    omega
  · rintro ⟨rfl, rfl⟩
    rfl
theorem zand_or {x a b : Int} (ha : 0 ≤ a) (hb : 0 ≤ b) : zand x (zor a b) = zor a b ↔ zand x a = a ∧ zand x b = b := by
  rw [zand_w (x := x) (w := zor a b) (Int.natCast_nonneg _), zand_w ha, zand_w hb]
  have e : (zor a b).toNat = a.toNat ||| b.toNat := by unfold zor; exact Int.toNat_natCast _
  rw [e]
  constructor
  · intro h
    exact ⟨fun k hk => h k (by rw [Nat.testBit_or, hk, Bool.true_or]), fun k hk => h k (by rw [Nat.testBit_or, hk, Bool.or_true])⟩
  · rintro ⟨h1, h2⟩ k hk
    rw [Nat.testBit_or, Bool.or_eq_true_iff] at hk
    rcases hk with hk | hk
    · exact h1 k hk
    · exact h2 k hk
theorem zand_0 (x : Int) : zand x 0 = 0 := by
  unfold zand
  rw [show (0 : Int).toNat = 0 from rfl, Nat.and_zero]
  rfl
theorem REL_and {R : Nat → Nat → Int} {s1 w1 s2 w2 : Int} (h1 : REL R s1 w1) (h2 : REL R s2 w2) : REL R (zand s1 s2) (zor w1 w2) := by
  rcases h1 with ⟨a1, a2⟩ | ⟨a1, a2, a3, a4, a5⟩ <;> rcases h2 with ⟨b1, b2⟩ | ⟨b1, b2, b3, b4, b5⟩
  · subst a1; subst b1
    exact Or.inl ⟨rfl, fun i hi => by rw [zbit_and, a2 i hi, b2 i hi]; rfl⟩
  · subst a1
    have e : zor 0 w2 = w2 := by
      unfold zor
      rw [show (0 : Int).toNat = 0 from rfl, Nat.zero_or]
      omega
    rw [e]
    refine Or.inr ⟨b1, b2, b3, by rw [zbit_and, b4, Bool.and_false], fun r hr => ?_⟩
    rw [zbit_and, a2 (r + 1) (by omega), b5 r hr, Bool.true_and]
  · subst b1
    have e : zor w1 0 = w1 := by
      unfold zor
      rw [show (0 : Int).toNat = 0 from rfl, Nat.or_zero]
      omega
    rw [e]
    refine Or.inr ⟨a1, a2, a3, by rw [zbit_and, a4, Bool.false_and], fun r hr => ?_⟩
    rw [zbit_and, b2 (r + 1) (by omega), a5 r hr, Bool.and_true]
  · have hz := zor_b ⟨a2, a3⟩ ⟨b2, b3⟩
    refine Or.inr ⟨fun z => a1 ((zor_nz a2 b2).mp z).1, hz.1, hz.2, by rw [zbit_and, a4, Bool.false_and], fun r hr => ?_⟩
    rw [zbit_and, a5 r hr, b5 r hr]
    by_cases q1 : zand (R 3 r) w1 = w1
    · by_cases q2 : zand (R 3 r) w2 = w2
      · rw [decide_eq_true q1, decide_eq_true q2, decide_eq_true ((zand_or a2 b2).mpr ⟨q1, q2⟩)]; rfl
      · rw [decide_eq_false q2, Bool.and_false, decide_eq_false (fun z => q2 ((zand_or a2 b2).mp z).2)]
    · rw [decide_eq_false q1, Bool.false_and, decide_eq_false (fun z => q1 ((zand_or a2 b2).mp z).1)]
theorem kRight_bit (R : Nat → Nat → Int) (c : Nat) : ∀ n r, zbit (kRight R c n) r = (decide (1 ≤ r ∧ r ≤ n) && zbit (R 3 (r - 1)) c)
  | 0, r => by
    rw [decide_eq_false (by omega), Bool.false_and]
    unfold zbit kRight
    rw [show (0 : Int).toNat = 0 from rfl, Nat.zero_testBit]
  | n + 1, r => by
    have ih := kRight_bit R c n r
    have e2 : ((2 : Int) ^ (n + 1)).toNat = 2 ^ (n + 1) := by
      rw [show ((2 : Int) ^ (n + 1)) = ((2 ^ (n + 1) : Nat) : Int) by push_cast; rfl, Int.toNat_natCast]
    unfold kRight
    by_cases q : zbit (R 3 n) c = true
    · rw [if_pos q]
      have e : zbit (zor (kRight R c n) ((2 : Int) ^ (n + 1))) r = (zbit (kRight R c n) r || decide (n + 1 = r)) := by
        unfold zbit zor
        rw [Int.toNat_natCast, Nat.testBit_or, e2, Nat.testBit_two_pow]
      rw [e, ih]
      by_cases a : r = n + 1
      · subst a
        rw [show n + 1 - 1 = n from by omega, q, decide_eq_true rfl, Bool.or_true, decide_eq_true (by omega)]
        rfl
      · rw [(decide_eq_false (fun z => a (Eq.symm z)) : decide (n + 1 = r) = false), Bool.or_false]
        congr 1
        exact decide_eq_decide.mpr (by omega)
    · rw [if_neg q, ih]
      by_cases a : r = n + 1
      · subst a
        rw [show n + 1 - 1 = n from by omega, Bool.eq_false_iff.mpr q, Bool.and_false, Bool.and_false]
      · congr 1
        exact decide_eq_decide.mpr (by omega)
theorem pow_bit {c k : Nat} : ((2 : Int) ^ c).toNat.testBit k = decide (c = k) := by
  rw [show ((2 : Int) ^ c) = ((2 ^ c : Nat) : Int) by push_cast; rfl, Int.toNat_natCast, Nat.testBit_two_pow]
theorem REL_s {R : Nat → Nat → Int} (hI : SI R) {s : Nat} (hs : (s : Int) < R 10 0) : REL R (sSp R s) (rMask R s) := by
  have h := (hI.sl s hs).2.2.1
  have hr := hI.r
  unfold sSp kSpans rMask
  by_cases q : R 13 s = -1
  · rw [if_pos q, if_pos q]
    refine Or.inl ⟨rfl, fun i hi => ?_⟩
    unfold zbit
    rw [show ((2 : Int) ^ ((R 1 0).toNat + 1) - 1).toNat = 2 ^ ((R 1 0).toNat + 1) - 1 from by
      rw [show ((2 : Int) ^ ((R 1 0).toNat + 1)) = ((2 ^ ((R 1 0).toNat + 1) : Nat) : Int) by push_cast; rfl]
      omega, Nat.testBit_two_pow_sub_one]
    exact decide_eq_true (by omega)
  · rw [if_neg q, if_neg q]
    have hp := pow_8 (k := (R 13 s).toNat) (by omega)
    refine Or.inr ⟨by omega, by omega, hp.2, ?_, fun r hr2 => ?_⟩
    · rw [kRight_bit, decide_eq_false (by omega), Bool.false_and]
    · rw [kRight_bit, decide_eq_true (by omega), Bool.true_and, show r + 1 - 1 = r from by omega]
      have e : zand (R 3 r) ((2 : Int) ^ (R 13 s).toNat) = (2 : Int) ^ (R 13 s).toNat ↔ zbit (R 3 r) (R 13 s).toNat = true := by
        rw [zand_w (by omega)]
        constructor
        · intro h2
          exact h2 _ (by rw [pow_bit]; exact decide_eq_true rfl)
        · intro h2 k hk
          rw [pow_bit] at hk
          have := of_decide_eq_true hk
          subst this
          exact h2
      by_cases a : zbit (R 3 r) (R 13 s).toNat = true
      · rw [a, decide_eq_true (e.mpr a)]
      · rw [Bool.eq_false_iff.mpr a, decide_eq_false (fun z => a (e.mp z))]
/-! why a seal is a fake -/
theorem dF_ge (R : Nat → Nat → Int) (d : Nat) (sh : Int) : ∀ m, R 6 d ≤ dFirst R d sh m
  | 0 => Int.le_refl _
  | m + 1 => by
    have := dF_ge R d sh m
    unfold dFirst
    split <;> omega
theorem dL_le (R : Nat → Nat → Int) (d : Nat) (sh : Int) : ∀ m, dLast R d sh m ≤ R 7 d
  | 0 => Int.le_refl _
  | m + 1 => by
    have := dL_le R d sh m
    unfold dLast
    split <;> omega
theorem sLo_y {R : Nat → Nat → Int} (hI : SI R) {s : Nat} (hs : (s : Int) < R 10 0) : 1000 ≤ sLo R s ∧ sHi R s ≤ 1999 := by
  have h1 := hI.sl s hs
  have h2 := hI.ds (R 11 s).toNat (by omega)
  have h3 := dF_ge R (sDie R s) (R 15 s) (R 8 (sDie R s)).toNat
  have h4 := dL_le R (sDie R s) (R 15 s) (R 8 (sDie R s)).toNat
  unfold sLo sHi
  unfold sDie at h3 h4 ⊢
  omega
theorem rY_sp {R : Nat → Nat → Int} (hI : SI R) {s : Nat} (hs : (s : Int) < R 10 0) : rY R 1000 1999 (rMask R s) 2 = 0 ↔ sSp R s = 0 := by
  have hr := hI.r
  have h := REL_s hI hs
  have h13 := (hI.sl s hs).2.2.1
  rcases h with ⟨hw, hall⟩ | ⟨hw, hw0, hw1, h0, hb⟩
  · rw [hw]
    constructor
    · intro z
      exfalso
      have z2 : (0 : Int) + (if rOk R 1000 1999 0 0 = true then rTo R 1999 0 0 - rFr R 1000 0 0 + 1 else 0) = 0 := z
      have hok : rOk R 1000 1999 0 0 = true := by
        unfold rOk rFr rTo
        rw [if_neg (fun z => z.1 rfl), if_neg (fun z => z.1 rfl)]
        rfl
      rw [if_pos hok] at z2
      unfold rFr rTo at z2
      rw [if_neg (fun z => z.1 rfl), if_neg (fun z => z.1 rfl)] at z2
      omega
    · intro z
      exfalso
      have := hall 0 (by omega)
      rw [z] at this
      unfold zbit at this
      rw [show (0 : Int).toNat = 0 from rfl, Nat.zero_testBit] at this
      cases this
  · have hc := (yr_eq hI (lo := 1000) (hi := 1999) (by decide) (by decide) (REL_s hI hs)).2.2
    have hn : rN R (rMask R s) = (R 1 0).toNat := if_neg hw
    have hsp : sSp R s = kRight R (R 13 s).toNat (R 1 0).toNat := by
      unfold sSp kSpans
      rw [if_neg (fun z => hw (by unfold rMask; rw [if_pos z]))]
    constructor
    · intro z
      have z2 : rF R 1000 1999 (rMask R s) (R 1 0).toNat = -1 := by
        rw [← hn]
        exact (rY_no (R := R) (lo := 1000) (hi := 1999) (w := rMask R s) (by decide)).mpr z
      have hno : ∀ r, r < (R 1 0).toNat → zbit (R 3 r) (R 13 s).toNat = false := fun r hr2 => by
        by_cases a : zbit (R 3 r) (R 13 s).toNat = true
        · exfalso
          have hbit := hb r hr2
          rw [hsp, kRight_bit, decide_eq_true (by omega), Bool.true_and, show r + 1 - 1 = r from by omega, a] at hbit
          have hzw := of_decide_eq_true hbit.symm
          have hg := hI.rg r (by omega)
          have hs2 := span_f hI (i := r) hr2
          have hl : R 2 r ≤ kLast R (R 1 0).toNat (r + 1) := by
            unfold kLast
            split
            · exact hg.2.1
            · have := hI.inc r (r + 1) (by omega) (by omega)
              omega
          have hok : rOk R 1000 1999 (rMask R s) r = true := by
            unfold rOk rFr rTo
            rw [Bool.and_eq_true_iff]
            refine ⟨decide_eq_true ?_, by rw [Bool.or_eq_true_iff]; exact Or.inr (decide_eq_true hzw)⟩
            split <;> split <;> omega
          have hf := rF_fst (R := R) (lo := 1000) (hi := 1999) (w := rMask R s) (by decide) hI.hB (R 1 0).toNat
          rw [z2] at hf
          by_cases q : fst (rOk R 1000 1999 (rMask R s)) (R 1 0).toNat < (R 1 0).toNat
          · rw [if_pos q] at hf
            unfold rFr at hf
            split at hf <;> omega
          · have := fst_before (p := rOk R 1000 1999 (rMask R s)) (n := (R 1 0).toNat) (j := r) (by omega)
            rw [hok] at this
            cases this
        · exact Bool.eq_false_iff.mpr a
      rw [hsp]
      have h0n : (kRight R (R 13 s).toNat (R 1 0).toNat).toNat = 0 := by
        refine Nat.eq_of_testBit_eq fun k => ?_
        rw [Nat.zero_testBit]
        have := kRight_bit R (R 13 s).toNat (R 1 0).toNat k
        unfold zbit at this
        rw [this]
        by_cases a : 1 ≤ k ∧ k ≤ (R 1 0).toNat
        · have := hno (k - 1) (by omega)
          unfold zbit at this
          rw [this, Bool.and_false]
        · rw [decide_eq_false a, Bool.false_and]
      have hnn := (kRight_r R (R 13 s).toNat (R 1 0).toNat).1
      omega
    · intro z
      rw [← hc]
      unfold yCount
      have e : ∀ m, sumZ (fun i => if yOk R (R 1 0).toNat 1000 1999 (sSp R s) i = true then yTo R (R 1 0).toNat 1999 i - yFrom R 1000 i + 1 else 0) m = 0 := by
        intro m
        induction m with
        | zero => rfl
        | succ m ih =>
          show sumZ _ m + (if yOk R (R 1 0).toNat 1000 1999 (sSp R s) m = true then yTo R (R 1 0).toNat 1999 m - yFrom R 1000 m + 1 else 0) = 0
          rw [ih, if_neg (by
            unfold yOk
            rw [z]
            unfold zbit
            rw [show (0 : Int).toNat = 0 from rfl, Nat.zero_testBit, Bool.false_and]
            decide)]
          rfl
      exact e _
theorem own_eq {R : Nat → Nat → Int} (hI : SI R) {s : Nat} (hs : (s : Int) < R 10 0) : ownA R s = ownR R s := by
  have hl := sLo_y hI hs
  obtain ⟨h1, h2, h3⟩ := yr_eq hI hl.1 hl.2 (REL_s hI hs)
  have h4 := rY_no (R := R) (lo := sLo R s) (hi := sHi R s) (w := rMask R s) (by omega)
  have h5 := rY_sp hI hs
  unfold ownA ownR sFirst
  rw [h1]
  by_cases a : R 20 (R 12 s).toNat < R 14 s
  · rw [if_pos a, if_pos a]
  · rw [if_neg a, if_neg a]
    by_cases b : sSp R s = 0
    · rw [if_pos b, if_pos (h5.mpr b)]
    · rw [if_neg b, if_neg (fun z => b (h5.mp z))]
      by_cases d : rY R (sLo R s) (sHi R s) (rMask R s) 2 = 0
      · rw [if_pos d, if_pos (h4.mpr d)]
      · rw [if_neg d, if_neg (fun z => d (h4.mp z))]
