/-! what the judge sees is what the reference finds -/
theorem foL_cg {p p2 : Nat → Bool} {f f2 : Nat → Int} : ∀ {n : Nat}, (∀ s, s < n → p s = p2 s ∧ f s = f2 s) → foL p f n = foL p2 f2 n
  | 0, _ => rfl
  | n + 1, h => by
    have ih := foL_cg (n := n) (fun s hs => h s (by omega))
    have e := anyB_cong (p := p) (q := p2) (n := n) (fun k hk => (h k (by omega)).1)
    obtain ⟨h1, h2⟩ := h n (by omega)
    unfold foL
    rw [ih, e, h1, h2]
theorem foH_cg {p p2 : Nat → Bool} {f f2 : Nat → Int} : ∀ {n : Nat}, (∀ s, s < n → p s = p2 s ∧ f s = f2 s) → foH p f n = foH p2 f2 n
  | 0, _ => rfl
  | n + 1, h => by
    have ih := foH_cg (n := n) (fun s hs => h s (by omega))
    have e := anyB_cong (p := p) (q := p2) (n := n) (fun k hk => (h k (by omega)).1)
    obtain ⟨h1, h2⟩ := h n (by omega)
    unfold foH
    rw [ih, e, h1, h2]
theorem foS_cg {p p2 : Nat → Bool} {f f2 : Nat → Int} : ∀ {n : Nat}, (∀ s, s < n → p s = p2 s ∧ f s = f2 s) → foS p f n = foS p2 f2 n
  | 0, _ => rfl
  | n + 1, h => by
    have ih := foS_cg (n := n) (fun s hs => h s (by omega))
    have e := anyB_cong (p := p) (q := p2) (n := n) (fun k hk => (h k (by omega)).1)
    obtain ⟨h1, h2⟩ := h n (by omega)
    unfold foS
    rw [ih, e, h1, h2]
theorem comL_fo (R : Nat → Nat → Int) (c w : Int) : ∀ n, comL R c w n = foL (cP R c w) (sLo R) n
  | 0 => rfl
  | n + 1 => by unfold comL foL; rw [comL_fo R c w n]
theorem comH_fo (R : Nat → Nat → Int) (c w : Int) : ∀ n, comH R c w n = foH (cP R c w) (sHi R) n
  | 0 => rfl
  | n + 1 => by unfold comH foH; rw [comH_fo R c w n]
theorem comS_fo (R : Nat → Nat → Int) (c w : Int) : ∀ n, comS R c w n = foS (cP R c w) (sSp R) n
  | 0 => rfl
  | n + 1 => by unfold comS foS; rw [comS_fo R c w n]
def SEE (R J : Nat → Nat → Int) (q : Nat) : Prop := (∀ s : Nat, (s : Int) < R 10 0 → J 0 s = sLo R s ∧ J 1 s = sHi R s ∧ J 2 s = sSp R s ∧ J 4 s = sFirst R s ∧ J 3 s = rsI R q s) ∧ ∀ c : Nat, c < q → J 0 (24 + c) = chL R c ∧ J 1 (24 + c) = chH R c ∧ J 2 (24 + c) = chS R c
/-- the seals that a charter's years come from -/
theorem pJ_eq {R J : Nat → Nat → Int} {q : Nat} {w : Int} {m : Nat} (h : ∀ s : Nat, (s : Int) < R 10 0 → J 3 s = rsI R m s) {s : Nat} (hs : (s : Int) < R 10 0) : pJ R J q w s = cP R q w s := by
  have ho := ownR_r R s
  unfold pJ jD cP
  rw [h s hs]
  by_cases a : R 16 s = (q : Int)
  · rw [decide_eq_true a, Bool.true_and, Bool.true_and]
    congr 1
    unfold rsI
    by_cases b : ownR R s = 0 ∧ 0 ≤ R 16 s ∧ R 16 s < m ∧ chNo R (R 16 s) = true
    · rw [if_pos b, decide_eq_true b.1]
      rfl
    · rw [if_neg b]
      rw [decide_eq_false (p := ownR R s = 4) (by omega), Bool.or_false]
  · rw [decide_eq_false a, Bool.false_and, Bool.false_and]
theorem foJ_eq {R J : Nat → Nat → Int} {q m : Nat} {w : Int} (hI : SI R) (h : SEE R J m) : foL (pJ R J q w) (J 0) (R 10 0).toNat = comL R q w (R 10 0).toNat ∧ foH (pJ R J q w) (J 1) (R 10 0).toNat = comH R q w (R 10 0).toNat ∧ foS (pJ R J q w) (J 2) (R 10 0).toNat = comS R q w (R 10 0).toNat := by
  have hs0 := hI.s
  rw [comL_fo, comH_fo, comS_fo]
  have hp : ∀ s, s < (R 10 0).toNat → pJ R J q w s = cP R q w s := fun s hs => pJ_eq (fun t ht => (h.1 t ht).2.2.2.2) (by omega)
  exact ⟨foL_cg (fun s hs => ⟨hp s hs, (h.1 s (by omega)).1⟩), foH_cg (fun s hs => ⟨hp s hs, (h.1 s (by omega)).2.1⟩), foS_cg (fun s hs => ⟨hp s hs, (h.1 s (by omega)).2.2.1⟩)⟩
theorem ys_o {J : Nat → Nat → Int} {i : Nat} {a b c : Int} {k j : Nat} (h : ¬ j = i) : yset J i a b c k j = J k j := if_neg h
theorem ys_k {J : Nat → Nat → Int} {i : Nat} {a b c : Int} {k j : Nat} (h : 3 ≤ k) : yset J i a b c k j = J k j := by
  unfold yset
  split
  · rw [if_neg (by omega), if_neg (by omega), if_neg (by omega)]
  · rfl
theorem ys_0 {J : Nat → Nat → Int} {i : Nat} {a b c : Int} : yset J i a b c 0 i = a ∧ yset J i a b c 1 i = b ∧ yset J i a b c 2 i = c := by
  refine ⟨?_, ?_, ?_⟩ <;> (unfold yset; rw [if_pos (rfl : i = i)]; rfl)
theorem SEE_s {R J : Nat → Nat → Int} (hI : SI R) {q : Nat} (hq : q < 6) (h : SEE R J q) : SEE R (blS R J q) (q + 1) := by
  have hs0 := hI.s
  obtain ⟨f1, f2, f3⟩ := foJ_eq (q := q) (w := -1) hI h
  have b0 : bl1 R J q 0 30 = chL R q ∧ bl1 R J q 1 30 = chH R q ∧ bl1 R J q 2 30 = chS R q := by
    unfold bl1 foJ
    rw [ys_0.1, ys_0.2.1, ys_0.2.2]
    exact ⟨f1, f2, f3⟩
  have b1 : ∀ k j, ¬ j = 30 → bl1 R J q k j = J k j := fun k j hj => by unfold bl1 foJ; exact ys_o hj
  have b1k : ∀ k j, 3 ≤ k → bl1 R J q k j = J k j := fun k j hk => by unfold bl1 foJ; exact ys_k hk
  have b2 : ∀ k j, ¬ j = 30 → ¬ j = 24 + q → bl2 R J q k j = J k j := fun k j h1 h2 => by unfold bl2; rw [ys_o h2]; exact b1 k j h1
  have b2k : ∀ k j, 3 ≤ k → bl2 R J q k j = J k j := fun k j hk => by unfold bl2; rw [ys_k hk]; exact b1k k j hk
  have b2q : bl2 R J q 0 (24 + q) = chL R q ∧ bl2 R J q 1 (24 + q) = chH R q ∧ bl2 R J q 2 (24 + q) = chS R q := by
    unfold bl2
    rw [ys_0.1, ys_0.2.1, ys_0.2.2]
    exact b0
  have hno : (yFirst R (R 1 0).toNat (bl1 R J q 0 30) (bl1 R J q 1 30) (bl1 R J q 2 30) = -1) ↔ chNo R q = true := by
    rw [b0.1, b0.2.1, b0.2.2]
    unfold chNo
    rw [decide_eq_true_iff]
  -- what the world of the years is
  have hyr : ∀ J2 : Nat → Nat → Int, (∀ k j, k ≤ 2 → J2 k j = bl2 R J q k j) → (∀ j, J2 4 j = bl2 R J q 4 j) → (∀ s : Nat, (s : Int) < R 10 0 → J2 3 s = rsI R (q + 1) s) → SEE R J2 (q + 1) := fun J2 e1 e2 e3 => by
    refine ⟨fun s hs => ?_, fun c hc => ?_⟩
    · obtain ⟨a1, a2, a3, a4, a5⟩ := h.1 s hs
      refine ⟨?_, ?_, ?_, ?_, e3 s hs⟩
      · rw [e1 0 s (by omega), b2 0 s (by omega) (by omega)]; exact a1
      · rw [e1 1 s (by omega), b2 1 s (by omega) (by omega)]; exact a2
      · rw [e1 2 s (by omega), b2 2 s (by omega) (by omega)]; exact a3
      · rw [e2 s, b2 4 s (by omega) (by omega)]; exact a4
    · by_cases e : c = q
      · subst e
        rw [e1 0 _ (by omega), e1 1 _ (by omega), e1 2 _ (by omega)]
        exact b2q
      · rw [e1 0 _ (by omega), e1 1 _ (by omega), e1 2 _ (by omega), b2 0 _ (by omega) (by omega), b2 1 _ (by omega) (by omega), b2 2 _ (by omega) (by omega)]
        exact h.2 c (by omega)
  unfold blS
  by_cases z : chNo R q = true
  · rw [if_pos (hno.mpr z)]
    refine hyr _ (fun k j hk => ?_) (fun j => rfl) (fun s hs => ?_)
    · show (if k = 3 then bcF R (bl2 R J q) q (R 10 0).toNat else bl2 R J q k) j = _
      rw [if_neg (by omega)]
    · show bcF R (bl2 R J q) q (R 10 0).toNat s = _
      have a5 := (h.1 s hs).2.2.2.2
      unfold bcF
      rw [b2k 3 s (by omega), a5]
      unfold rsI
      by_cases a : R 16 s = (q : Int)
      · rw [if_neg (c := ownR R s = 0 ∧ 0 ≤ R 16 s ∧ R 16 s < (q : Int) ∧ chNo R (R 16 s) = true) (by omega)]
        by_cases b : ownR R s = 0
        · rw [if_pos ⟨by omega, a, b⟩, if_pos ⟨b, by omega, by omega, by rw [a]; exact z⟩]
        · rw [if_neg (fun y => b y.2.2), if_neg (fun y => b y.1)]
      · rw [if_neg (fun y => a y.2.1)]
        by_cases b : ownR R s = 0 ∧ 0 ≤ R 16 s ∧ R 16 s < (q : Int) ∧ chNo R (R 16 s) = true
        · rw [if_pos b, if_pos ⟨b.1, b.2.1, by omega, b.2.2.2⟩]
        · rw [if_neg b, if_neg (fun y => b ⟨y.1, y.2.1, by have := y.2.2.1; omega, y.2.2.2⟩)]
  · rw [if_neg (fun y => z (hno.mp y))]
    refine hyr _ (fun _ _ _ => rfl) (fun _ => rfl) (fun s hs => ?_)
    rw [b2k 3 s (by omega), (h.1 s hs).2.2.2.2]
    unfold rsI
    by_cases b : ownR R s = 0 ∧ 0 ≤ R 16 s ∧ R 16 s < (q : Int) ∧ chNo R (R 16 s) = true
    · rw [if_pos b, if_pos ⟨b.1, b.2.1, by omega, b.2.2.2⟩]
    · rw [if_neg b, if_neg (fun y => b ⟨y.1, y.2.1, by
        have h1 := y.2.2.1
        have h2 : ¬ R 16 s = (q : Int) := fun v => z (by rw [← v]; exact y.2.2.2)
        omega, y.2.2.2⟩)]
theorem SEE_b {R J : Nat → Nat → Int} (hI : SI R) (h : SEE R J 0) : ∀ q, q ≤ 6 → SEE R (blB R J q) q
  | 0, _ => h
  | q + 1, hq => SEE_s hI (by omega) (SEE_b hI h q (by omega))
theorem date_at {R J : Nat → Nat → Int} {n s : Nat} (h : s < n) : dateJ R J n 0 s = sLo R s ∧ dateJ R J n 1 s = sHi R s ∧ dateJ R J n 2 s = sSp R s ∧ dateJ R J n 4 s = sFirst R s := by
  refine ⟨?_, ?_, ?_, ?_⟩ <;> (unfold dateJ; rw [if_pos h]; rfl)
/-- blame, with the years that date has found (the settings may have changed since) -/
theorem SEE_blame {R J : Nat → Nat → Int} (hI : SI R) (h : ∀ s : Nat, (s : Int) < R 10 0 → J 0 s = sLo R s ∧ J 1 s = sHi R s ∧ J 2 s = sSp R s ∧ J 4 s = sFirst R s) : SEE R (blameJ R J) 6 := by
  have hs0 := hI.s
  refine SEE_b hI ⟨fun s hs => ?_, fun c hc => by omega⟩ 6 (Nat.le_refl 6)
  obtain ⟨d1, d2, d3, d4⟩ := h s hs
  refine ⟨d1, d2, d3, d4, ?_⟩
  show owF R J (R 10 0).toNat s = _
  have e : rsI R 0 s = ownR R s := by
    unfold rsI
    exact if_neg (fun z => by have := z.2.2.1; have := z.2.1; omega)
  rw [e]
  unfold owF ownJ ownR
  rw [if_pos (by omega), d3, d4]
theorem SEE_see {R : Nat → Nat → Int} (hI : SI R) (J : Nat → Nat → Int) : SEE R (seeJ R J) 6 := SEE_blame hI (fun s hs => date_at (by have := hI.s; omega))
theorem see_3 {R : Nat → Nat → Int} (hI : SI R) (J : Nat → Nat → Int) {s : Nat} (hs : (s : Int) < R 10 0) : seeJ R J 3 s = rsn R s := ((SEE_see hI J).1 s hs).2.2.2.2
/-! the charters' years -/
theorem sp0_no (R : Nat → Nat → Int) (n : Nat) (lo hi : Int) (i : Nat) : yOk R n lo hi 0 i = false := by
  unfold yOk zbit
  rw [show (0 : Int).toNat = 0 from rfl, Nat.zero_testBit, Bool.false_and]
theorem sp0_3 (R : Nat → Nat → Int) (n : Nat) (lo hi : Int) : yFirst R n lo hi 0 = -1 ∧ yLast R n lo hi 0 = -1 ∧ ∀ m, yCount R n lo hi 0 m = 0 := by
  refine ⟨?_, ?_, fun m => ?_⟩
  · unfold yFirst yFi
    rw [fst_none (fun j _ => sp0_no R n lo hi j), if_neg (by omega)]
  · unfold yLast yLi
    rw [fst_none (fun j _ => sp0_no R n lo hi (n - j)), if_neg (by omega)]
  · unfold yCount
    induction m with
    | zero => rfl
    | succ m ih =>
      show sumZ _ m + (if yOk R n lo hi 0 m = true then _ else 0) = 0
      rw [ih, sp0_no]
      rfl
theorem gc_eq {R : Nat → Nat → Int} (hI : SI R) {c w : Int} {s : Nat} (hs : (s : Int) < R 10 0) : gP R c w s = cP R c w s := by
  unfold gP cP
  rw [own_eq hI hs]
  by_cases a : R 16 s = c <;> by_cases b : (s : Int) = w <;> by_cases d : ownR R s = 0 <;> simp [a, b, d]
theorem ga_eq {R : Nat → Nat → Int} (hI : SI R) (c w : Int) : ∀ m : Nat, (m : Int) ≤ R 10 0 → (anyB (cP R c w) m = true → gL R c w m = comL R c w m ∧ gH R c w m = comH R c w m ∧ REL R (comS R c w m) (gM R c w m) ∧ 0 < cnt (gP R c w) m) ∧ (anyB (cP R c w) m = false → gL R c w m = 1000 ∧ gH R c w m = 1999 ∧ gM R c w m = 0 ∧ comS R c w m = 0 ∧ cnt (gP R c w) m = 0) ∧ 1000 ≤ gL R c w m ∧ gH R c w m ≤ 1999
  | 0, _ => ⟨fun h => (by cases h), fun _ => ⟨rfl, rfl, rfl, rfl, rfl⟩, Int.le_refl _, Int.le_refl _⟩
  | m + 1, hm => by
    obtain ⟨i1, i2, i3, i4⟩ := ga_eq hI c w m (by omega)
    have hg := gc_eq hI (c := c) (w := w) (s := m) (by omega)
    have hl := sLo_y hI (s := m) (by omega)
    have hr := REL_s hI (s := m) (by omega)
    have hc0 := cnt_le (gP R c w) m
    have ea : anyB (cP R c w) (m + 1) = (anyB (cP R c w) m || cP R c w m) := rfl
    by_cases a : cP R c w m = true
    · have a2 : gP R c w m = true := hg.trans a
      rw [ea, a, Bool.or_true, gL_t a2, gH_t a2, gM_t a2, cnt_t a2]
      unfold comL comH comS
      rw [if_pos a, if_pos a, if_pos a]
      refine ⟨fun _ => ?_, fun h => (nomatch h), (by split <;> omega), (by split <;> omega)⟩
      by_cases b : anyB (cP R c w) m = true
      · obtain ⟨j1, j2, j3, j4⟩ := i1 b
        rw [if_pos b, if_pos b, if_pos b, ← j1, ← j2]
        refine ⟨by split <;> omega, by split <;> omega, REL_and j3 hr, by omega⟩
      · obtain ⟨j1, j2, j3, j4, j5⟩ := i2 (Bool.eq_false_iff.mpr b)
        rw [if_neg b, if_neg b, if_neg b, j1, j2, j3]
        refine ⟨by split <;> omega, by split <;> omega, ?_, by omega⟩
        have e : zor 0 (rMask R m) = rMask R m := by
          have := (rMask_8 (hI.sl m (by omega)).2.2.1).1
          unfold zor
          rw [show (0 : Int).toNat = 0 from rfl, Nat.zero_or]
          omega
        rw [e]
        exact hr
    · have a1 : cP R c w m = false := Bool.eq_false_iff.mpr a
      have a2 : gP R c w m = false := hg.trans a1
      rw [ea, a1, Bool.or_false, gL_f a2, gH_f a2, gM_f a2, cnt_f a2]
      unfold comL comH comS
      rw [if_neg a, if_neg a, if_neg a]
      exact ⟨i1, i2, i3, i4⟩
/-- the years of a charter, perhaps without one of its seals -/
theorem ch_eq {R : Nat → Nat → Int} (hI : SI R) (c w : Int) : yFirst R (R 1 0).toNat (comL R c w (R 10 0).toNat) (comH R c w (R 10 0).toNat) (comS R c w (R 10 0).toNat) = rCh R c w 0 ∧ yLast R (R 1 0).toNat (comL R c w (R 10 0).toNat) (comH R c w (R 10 0).toNat) (comS R c w (R 10 0).toNat) = rCh R c w 1 ∧ yCount R (R 1 0).toNat (comL R c w (R 10 0).toNat) (comH R c w (R 10 0).toNat) (comS R c w (R 10 0).toNat) ((R 1 0).toNat + 1) = rCh R c w 2 := by
  have hs0 := hI.s
  obtain ⟨i1, i2, i3, i4⟩ := ga_eq hI c w (R 10 0).toNat (by omega)
  unfold rCh
  by_cases b : anyB (cP R c w) (R 10 0).toNat = true
  · obtain ⟨j1, j2, j3, j4⟩ := i1 b
    rw [if_neg (by omega), if_neg (by omega), if_neg (by omega), ← j1, ← j2]
    exact yr_eq hI i3 i4 j3
  · obtain ⟨j1, j2, j3, j4, j5⟩ := i2 (Bool.eq_false_iff.mpr b)
    rw [if_pos j5, if_pos j5, if_pos j5, j4]
    obtain ⟨k1, k2, k3⟩ := sp0_3 R (R 1 0).toNat (comL R c w (R 10 0).toNat) (comH R c w (R 10 0).toNat)
    exact ⟨k1, k2, k3 _⟩
theorem rCh_no {R : Nat → Nat → Int} (hI : SI R) (c w : Int) : rCh R c w 0 = -1 ↔ rCh R c w 2 = 0 := by
  have hs0 := hI.s
  obtain ⟨-, -, i3, -⟩ := ga_eq hI c w (R 10 0).toNat (by omega)
  unfold rCh
  by_cases b : cnt (gP R c w) (R 10 0).toNat = 0
  · rw [if_pos b, if_pos b, if_neg (by omega), if_pos rfl]
    exact ⟨fun _ => rfl, fun _ => rfl⟩
  · rw [if_neg b, if_neg b]
    exact rY_no (by omega)
/-- why a seal is a fake -/
theorem fk_eq {R : Nat → Nat → Int} (hI : SI R) {s : Nat} (hs : (s : Int) < R 10 0) : rFk R s = rsn R s := by
  have h16 := (hI.sl s hs).2.2.2.2.2
  have h1 := (ch_eq hI (R 16 s) (-1)).1
  have h2 := rCh_no hI (R 16 s) (-1)
  have h3 : chNo R (R 16 s) = true ↔ rCh R (R 16 s) (-1) 2 = 0 := by
    unfold chNo chL chH chS
    rw [h1, decide_eq_true_iff]
    exact h2
  unfold rFk rsn rsI
  rw [own_eq hI hs]
  by_cases a : ownR R s = 0 ∧ ¬ R 16 s = -1 ∧ rCh R (R 16 s) (-1) 2 = 0
  · rw [if_pos a, if_pos ⟨a.1, by omega, by omega, h3.mpr a.2.2⟩]
  · rw [if_neg a, if_neg (fun z => a ⟨z.1, by omega, h3.mp z.2.2.2⟩)]
