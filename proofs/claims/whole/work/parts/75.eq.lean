/-! states that agree on all that lives: the actions keep it (garbage is left behind by the program's emptying) -/
def EQ (R Q : Nat → Nat → Int) : Prop := R 1 0 = Q 1 0 ∧ R 4 0 = Q 4 0 ∧ R 10 0 = Q 10 0 ∧ (∀ j : Nat, (j : Int) < R 1 0 → R 2 j = Q 2 j ∧ R 3 j = Q 3 j) ∧ (∀ d : Nat, (d : Int) < R 4 0 → R 5 d = Q 5 d ∧ R 6 d = Q 6 d ∧ R 7 d = Q 7 d ∧ R 8 d = Q 8 d ∧ ∀ k : Nat, (k : Int) < R 8 d → R 9 (d * 4 + k) = Q 9 (d * 4 + k)) ∧ (∀ s : Nat, (s : Int) < R 10 0 → R 11 s = Q 11 s ∧ R 12 s = Q 12 s ∧ R 13 s = Q 13 s ∧ R 14 s = Q 14 s ∧ R 15 s = Q 15 s ∧ R 16 s = Q 16 s) ∧ (∀ h : Nat, h < 6 → R 18 h = Q 18 h ∧ ∀ k : Nat, (k : Int) < R 18 h → R 19 (h * 6 + k) = Q 19 (h * 6 + k)) ∧ ∀ a : Nat, a < 2 → R 20 a = Q 20 a
def EQ2 (a b : Int × (Nat → Nat → Int)) : Prop := a.1 = b.1 ∧ EQ a.2 b.2
theorem upd_cg {f g : Nat → Int} {t j : Nat} {x : Int} (h : ¬ j = t → f j = g j) : updZ f t x j = updZ g t x j := by
  unfold updZ
  split
  · rfl
  · rename_i q
    exact h q
section EQS
variable {R Q : Nat → Nat → Int}
theorem EQ_r (R : Nat → Nat → Int) : EQ R R := ⟨rfl, rfl, rfl, fun _ _ => ⟨rfl, rfl⟩, fun _ _ => ⟨rfl, rfl, rfl, rfl, fun _ _ => rfl⟩, fun _ _ => ⟨rfl, rfl, rfl, rfl, rfl, rfl⟩, fun _ _ => ⟨rfl, fun _ _ => rfl⟩, fun _ _ => rfl⟩
theorem EQ_20 (h : EQ R Q) (t : Nat) (x : Int) : EQ (u2 R 20 (updZ (R 20) t x)) (u2 Q 20 (updZ (Q 20) t x)) := ⟨h.1, h.2.1, h.2.2.1, h.2.2.2.1, h.2.2.2.2.1, h.2.2.2.2.2.1, h.2.2.2.2.2.2.1, fun a ha => upd_cg (fun _ => h.2.2.2.2.2.2.2 a ha)⟩
theorem EQ_15 (h : EQ R Q) (t : Nat) (x : Int) : EQ (u2 R 15 (updZ (R 15) t x)) (u2 Q 15 (updZ (Q 15) t x)) := ⟨h.1, h.2.1, h.2.2.1, h.2.2.2.1, h.2.2.2.2.1, fun s hs => by
  obtain ⟨a1, a2, a3, a4, a5, a6⟩ := h.2.2.2.2.2.1 s hs
  exact ⟨a1, a2, a3, a4, upd_cg (fun _ => a5), a6⟩, h.2.2.2.2.2.2.1, h.2.2.2.2.2.2.2⟩
theorem EQ_16 (h : EQ R Q) (t : Nat) (x : Int) : EQ (u2 R 16 (updZ (R 16) t x)) (u2 Q 16 (updZ (Q 16) t x)) := ⟨h.1, h.2.1, h.2.2.1, h.2.2.2.1, h.2.2.2.2.1, fun s hs => by
  obtain ⟨a1, a2, a3, a4, a5, a6⟩ := h.2.2.2.2.2.1 s hs
  exact ⟨a1, a2, a3, a4, a5, upd_cg (fun _ => a6)⟩, h.2.2.2.2.2.2.1, h.2.2.2.2.2.2.2⟩
theorem EQ_set (h : EQ R Q) (a v : Int) : EQ2 (aSet R a v) (aSet Q a v) := by
  unfold aSet
  by_cases q : a < 0 ∨ 2 ≤ a ∨ v < 0 ∨ 99 < v
  · rw [if_pos q, if_pos q]
    exact ⟨rfl, h⟩
  · rw [if_neg q, if_neg q]
    exact ⟨h.2.2.2.2.2.2.2 _ (by omega), EQ_20 h _ _⟩
theorem EQ_cut (h : EQ R Q) (t : Int) : EQ2 (aCut R t) (aCut Q t) := by
  unfold aCut
  rw [← h.2.2.1]
  by_cases q : t < 0 ∨ R 10 0 ≤ t
  · rw [if_pos q, if_pos q]
    exact ⟨rfl, h⟩
  · rw [if_neg q, if_neg q]
    obtain ⟨-, -, -, -, -, a6⟩ := h.2.2.2.2.2.1 t.toNat (by omega)
    rw [← a6]
    by_cases q2 : R 16 t.toNat = -1
    · rw [if_pos q2, if_pos q2]
      exact ⟨rfl, h⟩
    · rw [if_neg q2, if_neg q2]
      exact ⟨rfl, EQ_16 h _ _⟩
theorem EQ_hang (h : EQ R Q) (t x : Int) : EQ2 (aHang R t x) (aHang Q t x) := by
  unfold aHang
  rw [← h.2.2.1]
  by_cases q : t < 0 ∨ R 10 0 ≤ t ∨ x < 0 ∨ 6 ≤ x
  · rw [if_pos q, if_pos q]
    exact ⟨rfl, h⟩
  · rw [if_neg q, if_neg q]
    refine ⟨cnt_cong (fun k hk => ?_), EQ_16 h _ _⟩
    rw [upd_cg (fun _ => (h.2.2.2.2.2.1 k (by omega)).2.2.2.2.2)]
theorem EQ_show (h : EQ R Q) (hI : SI R) (t x : Int) : EQ2 (aShow R t x) (aShow Q t x) := by
  unfold aShow
  rw [← h.2.2.1]
  by_cases q : t < 0 ∨ R 10 0 ≤ t
  · rw [if_pos q, if_pos q]
    exact ⟨rfl, h⟩
  · rw [if_neg q, if_neg q]
    obtain ⟨a1, -, -, -, a5, -⟩ := h.2.2.2.2.2.1 t.toNat (by omega)
    have hd := (hI.sl t.toNat (by omega)).1
    obtain ⟨-, -, -, d4, -⟩ := h.2.2.2.2.1 (R 11 t.toNat).toNat (by omega)
    rw [← a1, ← d4, ← a5]
    by_cases q2 : x < 0 ∨ (2 : Int) ^ (R 8 (R 11 t.toNat).toNat).toNat ≤ x
    · rw [if_pos q2, if_pos q2]
      exact ⟨rfl, h⟩
    · rw [if_neg q2, if_neg q2]
      exact ⟨rfl, EQ_15 h _ _⟩
theorem EQ_seal (h : EQ R Q) (d a q z x : Int) : EQ2 (aSeal R d a q z x) (aSeal Q d a q z x) := by
  unfold aSeal
  rw [← h.2.1]
  by_cases b : d < 0 ∨ R 4 0 ≤ d
  · rw [if_pos b, if_pos b]
    exact ⟨rfl, h⟩
  · rw [if_neg b, if_neg b]
    obtain ⟨-, -, -, d4, -⟩ := h.2.2.2.2.1 d.toNat (by omega)
    rw [← d4, ← h.2.2.1]
    by_cases b2 : a < 0 ∨ 2 ≤ a ∨ q < -1 ∨ 8 ≤ q ∨ z < 0 ∨ 99 < z ∨ x < 0 ∨ (2 : Int) ^ (R 8 d.toNat).toNat ≤ x
    · rw [if_pos b2, if_pos b2]
      exact ⟨rfl, h⟩
    · rw [if_neg b2, if_neg b2]
      by_cases b3 : 24 ≤ R 10 0
      · rw [if_pos b3, if_pos b3]
        exact ⟨rfl, h⟩
      · rw [if_neg b3, if_neg b3]
        refine ⟨rfl, h.1, h.2.1, rfl, h.2.2.2.1, h.2.2.2.2.1, fun s hs => ?_, h.2.2.2.2.2.2.1, h.2.2.2.2.2.2.2⟩
        have hs2 : (s : Int) < R 10 0 + 1 := hs
        have key : ¬ s = (R 10 0).toNat → (s : Int) < R 10 0 := fun y => by omega
        exact ⟨upd_cg (fun y => (h.2.2.2.2.2.1 s (key y)).1), upd_cg (fun y => (h.2.2.2.2.2.1 s (key y)).2.1), upd_cg (fun y => (h.2.2.2.2.2.1 s (key y)).2.2.1), upd_cg (fun y => (h.2.2.2.2.2.1 s (key y)).2.2.2.1), upd_cg (fun y => (h.2.2.2.2.2.1 s (key y)).2.2.2.2.1), upd_cg (fun y => (h.2.2.2.2.2.1 s (key y)).2.2.2.2.2)⟩
theorem EQ_die (h : EQ R Q) (n a b : Int) : EQ2 (aDie R n a b) (aDie Q n a b) := by
  unfold aDie
  rw [← h.2.1]
  by_cases q : n < 0 ∨ 6 ≤ n ∨ ¬ isY a ∨ ¬ isY b ∨ b < a
  · rw [if_pos q, if_pos q]
    exact ⟨rfl, h⟩
  · rw [if_neg q, if_neg q]
    by_cases q2 : 10 ≤ R 4 0
    · rw [if_pos q2, if_pos q2]
      exact ⟨rfl, h⟩
    · rw [if_neg q2, if_neg q2]
      refine ⟨rfl, h.1, rfl, h.2.2.1, h.2.2.2.1, fun s hs => ?_, h.2.2.2.2.2.1, h.2.2.2.2.2.2.1, h.2.2.2.2.2.2.2⟩
      have hs2 : (s : Int) < R 4 0 + 1 := hs
      have key : ¬ s = (R 4 0).toNat → (s : Int) < R 4 0 := fun y => by omega
      refine ⟨upd_cg (fun y => (h.2.2.2.2.1 s (key y)).1), upd_cg (fun y => (h.2.2.2.2.1 s (key y)).2.1), upd_cg (fun y => (h.2.2.2.2.1 s (key y)).2.2.1), upd_cg (fun y => (h.2.2.2.2.1 s (key y)).2.2.2.1), fun k hk => ?_⟩
      have hk2 : (k : Int) < updZ (R 8) (R 4 0).toNat 0 s := hk
      by_cases y : s = (R 4 0).toNat
      · unfold updZ at hk2
        rw [if_pos y] at hk2
        omega
      · unfold updZ at hk2
        rw [if_neg y] at hk2
        exact (h.2.2.2.2.1 s (key y)).2.2.2.2 k hk2
end EQS
