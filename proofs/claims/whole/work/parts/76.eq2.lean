/-! living places: reigns, cracks, answers; taking off a shelf -/
section EQT
variable {R Q : Nat → Nat → Int}
theorem EQ_EA (h : EQ R Q) (hI : SI R) : EA R Q := by
  refine ⟨⟨h.1, h.2.2.2.1⟩, h.2.2.1, fun s hs => ?_⟩
  obtain ⟨a1, a2, a3, a4, a5, a6⟩ := h.2.2.2.2.2.1 s hs
  obtain ⟨s1, s2, -⟩ := hI.sl s hs
  obtain ⟨-, d2, d3, d4, d5⟩ := h.2.2.2.2.1 (R 11 s).toNat (by omega)
  obtain ⟨e1, e2⟩ := sLo_cg (R := R) (Q := Q) (s := s) a1 a5 d2 d3 d4 (fun k hk => d5 k (by omega))
  have e3 : rMask R s = rMask Q s := by
    unfold rMask
    rw [a3]
  refine ⟨a6, e1, e2, e3, ownA_cg ⟨h.1, h.2.2.2.1⟩ ?_ e3 e1 e2⟩
  rw [← a2, ← a4, h.2.2.2.2.2.2.2 (R 12 s).toNat (by omega)]
theorem EQ_reign (h : EQ R Q) (y c : Int) : EQ2 (aReign R y c) (aReign Q y c) := by
  unfold aReign
  rw [← h.1]
  by_cases q : ¬ isY y ∨ c < 1 ∨ 256 ≤ c
  · rw [if_pos q, if_pos q]
    exact ⟨rfl, h⟩
  · rw [if_neg q, if_neg q]
    have e : kBehind R (R 1 0).toNat y = kBehind Q (R 1 0).toNat y := by
      unfold kBehind
      by_cases z : (R 1 0).toNat = 0
      · rw [decide_eq_true z, Bool.true_or, Bool.true_or]
      · rw [(h.2.2.2.1 ((R 1 0).toNat - 1) (by omega)).1]
    rw [← e]
    by_cases q2 : 10 ≤ R 1 0 ∨ kBehind R (R 1 0).toNat y = false
    · rw [if_pos q2, if_pos q2]
      exact ⟨rfl, h⟩
    · rw [if_neg q2, if_neg q2]
      refine ⟨rfl, rfl, h.2.1, h.2.2.1, fun s hs => ?_, h.2.2.2.2.1, h.2.2.2.2.2.1, h.2.2.2.2.2.2.1, h.2.2.2.2.2.2.2⟩
      have hs2 : (s : Int) < R 1 0 + 1 := hs
      have key : ¬ s = (R 1 0).toNat → (s : Int) < R 1 0 := fun y => by omega
      exact ⟨upd_cg (fun y => (h.2.2.2.1 s (key y)).1), upd_cg (fun y => (h.2.2.2.1 s (key y)).2)⟩
theorem EQ_crack (h : EQ R Q) (d y : Int) : EQ2 (aCrack R d y) (aCrack Q d y) := by
  unfold aCrack
  rw [← h.2.1]
  by_cases b : d < 0 ∨ R 4 0 ≤ d
  · rw [if_pos b, if_pos b]
    exact ⟨rfl, h⟩
  · rw [if_neg b, if_neg b]
    by_cases b1 : ¬ isY y
    · rw [if_pos b1, if_pos b1]
      exact ⟨rfl, h⟩
    · rw [if_neg b1, if_neg b1]
      obtain ⟨-, -, -, d4, d5⟩ := h.2.2.2.2.1 d.toNat (by omega)
      have e : dIn R d.toNat (R 8 d.toNat).toNat y = dIn Q d.toNat (R 8 d.toNat).toNat y := by
        unfold dIn
        exact anyB_cong (fun k hk => by rw [d5 k (by omega)])
      rw [← d4, ← e]
      by_cases b2 : 4 ≤ R 8 d.toNat ∨ dIn R d.toNat (R 8 d.toNat).toNat y = true
      · rw [if_pos b2, if_pos b2]
        exact ⟨rfl, h⟩
      · rw [if_neg b2, if_neg b2]
        refine ⟨rfl, h.1, h.2.1, h.2.2.1, h.2.2.2.1, fun s hs => ?_, h.2.2.2.2.2.1, h.2.2.2.2.2.2.1, h.2.2.2.2.2.2.2⟩
        obtain ⟨f1, f2, f3, f4, f5⟩ := h.2.2.2.2.1 s hs
        refine ⟨f1, f2, f3, upd_cg (fun _ => f4), fun k hk => ?_⟩
        have hk2 : (k : Int) < updZ (R 8) d.toNat (R 8 d.toNat + 1) s := hk
        refine upd_cg (fun z => ?_)
        unfold updZ at hk2
        by_cases w : s = d.toNat
        · rw [if_pos w] at hk2
          subst w
          exact f5 k (by omega)
        · rw [if_neg w] at hk2
          exact f5 k hk2
theorem pOn_cg (h : EQ R Q) {k : Nat} (hk : k < 6) (s : Int) : pOn R k s = pOn Q k s ∧ shN R k = shN Q k := by
  obtain ⟨a, b⟩ := h.2.2.2.2.2.2.1 k hk
  have e : shN R k = shN Q k := by
    unfold shN
    rw [a]
  refine ⟨?_, e⟩
  unfold pOn
  rw [← e]
  refine fst_cong (fun j hj => ?_)
  unfold onS
  unfold shN at hj
  rw [b j (by omega)]
theorem sOf_cg (h : EQ R Q) (s : Int) : sOf R s = sOf Q s := by
  unfold sOf
  refine fst_cong (fun k hk => ?_)
  obtain ⟨a, b⟩ := pOn_cg h hk s
  rw [a, b]
theorem EQ_rm (h : EQ R Q) (hI : SI R) (s : Int) : EQ (rmR R s) (rmR Q s) := by
  unfold rmR
  rw [← sOf_cg h]
  by_cases q : sOf R s < 6
  · rw [if_pos q, if_pos q]
    obtain ⟨a, b⟩ := pOn_cg h q s
    have hn := hI.hN _ q
    rw [← a, ← b, ← (h.2.2.2.2.2.2.1 _ q).1]
    refine ⟨h.1, h.2.1, h.2.2.1, h.2.2.2.1, h.2.2.2.2.1, h.2.2.2.2.2.1, fun k hk => ?_, h.2.2.2.2.2.2.2⟩
    obtain ⟨c1, c2⟩ := h.2.2.2.2.2.2.1 k hk
    refine ⟨upd_cg (fun _ => c1), fun j hj => ?_⟩
    have hj2 : (j : Int) < updZ (R 18) (sOf R s) (R 18 (sOf R s) - 1) k := hj
    have hnk := hI.hN k hk
    show shl (R 19) _ _ (k * 6 + j) = shl (Q 19) _ _ (k * 6 + j)
    unfold updZ at hj2
    unfold shl shN
    by_cases w : k = sOf R s
    · rw [if_pos w] at hj2
      subst w
      split
      · exact c2 (j + 1) (by omega)
      · exact c2 j (by omega)
    · rw [if_neg w] at hj2
      rw [if_neg (by omega), if_neg (by omega)]
      exact c2 j hj2
  · rw [if_neg q, if_neg q]
    exact h
theorem EQ_take (h : EQ R Q) (hI : SI R) (t : Int) : EQ2 (aTake R t) (aTake Q t) := by
  unfold aTake
  rw [← h.2.2.1, ← sOf_cg h]
  by_cases q : t < 0 ∨ R 10 0 ≤ t
  · rw [if_pos q, if_pos q]
    exact ⟨rfl, h⟩
  · rw [if_neg q, if_neg q]
    by_cases q2 : sOf R t = 6
    · rw [if_pos q2, if_pos q2]
      exact ⟨rfl, h⟩
    · rw [if_neg q2, if_neg q2]
      exact ⟨rfl, EQ_rm h hI t⟩
end EQT
