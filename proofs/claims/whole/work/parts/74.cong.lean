/-! two states that agree on what lives answer alike -/
def EY (R Q : Nat → Nat → Int) : Prop := R 1 0 = Q 1 0 ∧ ∀ j : Nat, (j : Int) < R 1 0 → R 2 j = Q 2 j ∧ R 3 j = Q 3 j
def EA (R Q : Nat → Nat → Int) : Prop := EY R Q ∧ R 10 0 = Q 10 0 ∧ ∀ s : Nat, (s : Int) < R 10 0 → R 16 s = Q 16 s ∧ sLo R s = sLo Q s ∧ sHi R s = sHi Q s ∧ rMask R s = rMask Q s ∧ ownA R s = ownA Q s
section CG
variable {R Q : Nat → Nat → Int}
theorem rOk_cg (h : EY R Q) {lo hi w : Int} {i : Nat} (hi2 : i < rN R w) : rOk R lo hi w i = rOk Q lo hi w i ∧ rFr R lo w i = rFr Q lo w i ∧ rTo R hi w i = rTo Q hi w i := by
  by_cases z : w = 0
  · subst z
    unfold rOk rFr rTo
    rw [if_neg (fun y => y.1 rfl), if_neg (fun y => y.1 rfl), if_neg (fun y => y.1 rfl), if_neg (fun y => y.1 rfl), decide_eq_true (rfl : (0 : Int) = 0), Bool.true_or, Bool.true_or]
    exact ⟨rfl, rfl, rfl⟩
  · have hn : i < (R 1 0).toNat := by
      unfold rN at hi2
      rw [if_neg z] at hi2
      exact hi2
    obtain ⟨e1, e2⟩ := h.2 i (by omega)
    have e3 : kLast R (R 1 0).toNat (i + 1) = kLast Q (Q 1 0).toNat (i + 1) := by
      unfold kLast
      rw [← h.1]
      by_cases a : i + 1 = (R 1 0).toNat
      · rw [if_pos a, if_pos a]
      · rw [if_neg a, if_neg a, (h.2 (i + 1) (by omega)).1]
    have f1 : rFr R lo w i = rFr Q lo w i := by
      unfold rFr
      rw [e1]
    have f2 : rTo R hi w i = rTo Q hi w i := by
      unfold rTo
      rw [e3]
    refine ⟨?_, f1, f2⟩
    unfold rOk
    rw [f1, f2, e2]
theorem rN_cg (h : EY R Q) (w : Int) : rN R w = rN Q w := by
  unfold rN
  rw [h.1]
theorem rF_cg (h : EY R Q) (lo hi w : Int) : ∀ n, n ≤ rN R w → rF R lo hi w n = rF Q lo hi w n ∧ rL R lo hi w n = rL Q lo hi w n ∧ rC R lo hi w n = rC Q lo hi w n
  | 0, _ => ⟨rfl, rfl, rfl⟩
  | n + 1, hn => by
    obtain ⟨i1, i2, i3⟩ := rF_cg h lo hi w n (by omega)
    obtain ⟨e1, e2, e3⟩ := rOk_cg h (lo := lo) (hi := hi) (w := w) (i := n) (by omega)
    unfold rF rL rC
    rw [i1, i2, i3, e1, e2, e3]
    exact ⟨rfl, rfl, rfl⟩
theorem rY_cg (h : EY R Q) (lo hi w q : Int) : rY R lo hi w q = rY Q lo hi w q := by
  obtain ⟨e1, e2, e3⟩ := rF_cg h lo hi w (rN R w) (Nat.le_refl _)
  unfold rY
  rw [← rN_cg h, e1, e2, e3]
theorem gP_cg (h : EA R Q) (c w : Int) {s : Nat} (hs : (s : Int) < R 10 0) : gP R c w s = gP Q c w s := by
  obtain ⟨a1, -, -, -, a5⟩ := h.2.2 s hs
  unfold gP
  rw [a1, a5]
theorem gL_cg (h : EA R Q) (c w : Int) : ∀ n : Nat, (n : Int) ≤ R 10 0 → gL R c w n = gL Q c w n ∧ gH R c w n = gH Q c w n ∧ gM R c w n = gM Q c w n
  | 0, _ => ⟨rfl, rfl, rfl⟩
  | n + 1, hn => by
    obtain ⟨i1, i2, i3⟩ := gL_cg h c w n (by omega)
    obtain ⟨-, a2, a3, a4, -⟩ := h.2.2 n (by omega)
    have e := gP_cg h c w (s := n) (by omega)
    unfold gL gH gM
    rw [i1, i2, i3, e, a2, a3, a4]
    exact ⟨rfl, rfl, rfl⟩
theorem rCh_cg (h : EA R Q) (h0 : 0 ≤ R 10 0) (c w q : Int) : rCh R c w q = rCh Q c w q := by
  obtain ⟨e1, e2, e3⟩ := gL_cg h c w (R 10 0).toNat (by omega)
  have e4 : cnt (gP R c w) (R 10 0).toNat = cnt (gP Q c w) (R 10 0).toNat := cnt_cong (fun k hk => gP_cg h c w (by omega))
  unfold rCh
  rw [e4, e1, e2, e3, rY_cg h.1, ← h.2.1]
theorem rFk_cg (h : EA R Q) (h0 : 0 ≤ R 10 0) {s : Nat} (hs : (s : Int) < R 10 0) : rFk R s = rFk Q s := by
  obtain ⟨a1, -, -, -, a5⟩ := h.2.2 s hs
  unfold rFk
  rw [rCh_cg h h0, a1, a5]
theorem rFks_cg (h : EA R Q) (h0 : 0 ≤ R 10 0) : rFks R (R 10 0).toNat = rFks Q (R 10 0).toNat := by
  unfold rFks
  exact cnt_cong (fun k hk => by rw [rFk_cg h h0 (by omega)])
theorem ownA_cg (h : EY R Q) {s : Nat} (e1 : R 20 (R 12 s).toNat < R 14 s ↔ Q 20 (Q 12 s).toNat < Q 14 s) (e2 : rMask R s = rMask Q s) (e3 : sLo R s = sLo Q s) (e4 : sHi R s = sHi Q s) : ownA R s = ownA Q s := by
  unfold ownA
  rw [rY_cg h, rY_cg h, e2, e3, e4]
  by_cases z : R 20 (R 12 s).toNat < R 14 s
  · rw [if_pos z, if_pos (e1.mp z)]
  · rw [if_neg z, if_neg (fun y => z (e1.mpr y))]
end CG
theorem dFirst_cg {R Q : Nat → Nat → Int} {d : Nat} {sh : Int} (h6 : R 6 d = Q 6 d) : ∀ {m : Nat}, (∀ k, k < m → R 9 (d * 4 + k) = Q 9 (d * 4 + k)) → dFirst R d sh m = dFirst Q d sh m
  | 0, _ => h6
  | m + 1, h => by
    unfold dFirst
    rw [dFirst_cg h6 (fun k hk => h k (by omega)), h m (by omega)]
theorem dLast_cg {R Q : Nat → Nat → Int} {d : Nat} {sh : Int} (h7 : R 7 d = Q 7 d) : ∀ {m : Nat}, (∀ k, k < m → R 9 (d * 4 + k) = Q 9 (d * 4 + k)) → dLast R d sh m = dLast Q d sh m
  | 0, _ => h7
  | m + 1, h => by
    unfold dLast
    rw [dLast_cg h7 (fun k hk => h k (by omega)), h m (by omega)]
theorem sLo_cg {R Q : Nat → Nat → Int} {s : Nat} (e11 : R 11 s = Q 11 s) (e15 : R 15 s = Q 15 s) (e6 : R 6 (R 11 s).toNat = Q 6 (R 11 s).toNat) (e7 : R 7 (R 11 s).toNat = Q 7 (R 11 s).toNat) (e8 : R 8 (R 11 s).toNat = Q 8 (R 11 s).toNat) (e9 : ∀ k, k < (R 8 (R 11 s).toNat).toNat → R 9 ((R 11 s).toNat * 4 + k) = Q 9 ((R 11 s).toNat * 4 + k)) : sLo R s = sLo Q s ∧ sHi R s = sHi Q s := by
  unfold sLo sHi sDie
  rw [← e11, ← e15, ← e8, dFirst_cg e6 e9, dLast_cg e7 e9]
  exact ⟨rfl, rfl⟩
theorem lb_20 (R : Nat → Nat → Int) (a i j : Nat) : lbR R a (i + 1) 20 j = if j = a then (i : Int) else R 20 j := rfl
/-- a number of bubbles that no seal of the material has tells nothing new -/
theorem lb_same {R : Nat → Nat → Int} (hI : SI R) {a v : Nat} (h : ∀ s : Nat, (s : Int) < R 10 0 → ¬ (R 12 s = (a : Int) ∧ R 14 s = (v : Int) + 1)) : rFks (lbR R a (v + 1 + 1)) (R 10 0).toNat = rFks (lbR R a (v + 1)) (R 10 0).toNat := by
  have hs0 := hI.s
  have hE : EA (lbR R a (v + 1 + 1)) (lbR R a (v + 1)) := by
    have hY : EY (lbR R a (v + 1 + 1)) (lbR R a (v + 1)) := ⟨rfl, fun j _ => ⟨rfl, rfl⟩⟩
    refine ⟨hY, rfl, fun s hs => ?_⟩
    have hs2 : (s : Int) < R 10 0 := hs
    obtain ⟨e3, e4⟩ := sLo_cg (R := lbR R a (v + 1 + 1)) (Q := lbR R a (v + 1)) (s := s) rfl rfl rfl rfl rfl (fun k _ => rfl)
    have e5 : rMask (lbR R a (v + 1 + 1)) s = rMask (lbR R a (v + 1)) s := by
      unfold rMask
      rfl
    refine ⟨rfl, e3, e4, e5, ownA_cg hY ?_ e5 e3 e4⟩
    have h12 := (hI.sl s hs2).2.1
    show lbR R a (v + 1 + 1) 20 (R 12 s).toNat < R 14 s ↔ lbR R a (v + 1) 20 (R 12 s).toNat < R 14 s
    have hn := h s hs2
    rw [lb_20, lb_20]
    by_cases q : (R 12 s).toNat = a
    · rw [if_pos q, if_pos q]
      omega
    · rw [if_neg q, if_neg q]
  exact rFks_cg hE (by show 0 ≤ R 10 0; omega)
/-- the settings worth a look -/
def mayT (R : Nat → Nat → Int) (a v : Nat) : Bool := decide (v = 0) || anyB (fun s => decide (R 12 s = (a : Int)) && decide (R 14 s = (v : Int))) (R 10 0).toNat
theorem lb_may {R : Nat → Nat → Int} (hI : SI R) {a v : Nat} {fk : Int} (h : mayT R a (v + 1) = false) : lbP R a fk (v + 1) = lbP R a fk v := by
  have hs0 := hI.s
  unfold lbP
  rw [lb_same hI (fun s hs z => ?_)]
  unfold mayT at h
  rw [Bool.or_eq_false_iff] at h
  have h2 := anyB_t (p := fun s => decide (R 12 s = (a : Int)) && decide (R 14 s = ((v + 1 : Nat) : Int))) (i := s) (n := (R 10 0).toNat) (by
    rw [Bool.and_eq_true]
    exact ⟨decide_eq_true z.1, decide_eq_true (by rw [z.2]; omega)⟩) (by omega)
  rw [h.2] at h2
  cases h2
theorem fst_skip {p m : Nat → Bool} (h0 : m 0 = true) (h : ∀ v, m (v + 1) = false → p (v + 1) = p v) : ∀ n, fst (fun v => m v && p v) n = fst p n := fun n => by
  have key : ∀ v, (∀ j, j < v → p j = false) → (m v && p v) = p v := fun v hv => by
    cases hm : m v with
    | true => rw [Bool.true_and]
    | false =>
      rw [Bool.false_and]
      cases v with
      | zero => rw [h0] at hm; cases hm
      | succ v => rw [h v hm, hv v (by omega)]
  have key2 : ∀ n, (∀ j, j < n → (m j && p j) = false) → ∀ j, j < n → p j = false := fun n => by
    induction n with
    | zero => intro _ j hj; omega
    | succ n ih =>
      intro hh j hj
      have h1 := ih (fun j hj => hh j (by omega))
      by_cases e : j = n
      · subst e
        rw [← key j h1]
        exact hh j (by omega)
      · exact h1 j (by omega)
  have hle := fst_le (fun v => m v && p v) n
  have hb := key2 (fst (fun v => m v && p v) n) (fun j hj => fst_before (p := fun v => m v && p v) (n := n) hj)
  rcases Nat.lt_or_ge (fst (fun v => m v && p v) n) n with q | q
  · have h1 : (m _ && p _) = true := fst_lt (p := fun v => m v && p v) q
    rw [key _ hb] at h1
    exact (fst_some hb h1 q).symm
  · have e : fst (fun v => m v && p v) n = n := by omega
    rw [e] at hb ⊢
    exact (fst_none hb).symm
/-- the class skips settings, and finds the same least one -/
theorem lb_eq {R : Nat → Nat → Int} (hI : SI R) (a : Nat) (fk : Int) (n : Nat) : fst (fun v => mayT R a v && lbP R a fk v) n = fst (lbP R a fk) n := fst_skip rfl (fun v hv => lb_may hI hv) n
