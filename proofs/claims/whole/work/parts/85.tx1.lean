/-! the class's reading and the reference's: the parts of an entry -/
/-- the class's reader stands where the reference's stands -/
def RLx (X : Nat → Int) (n a g : Int) : Prop := X 0 = n ∧ X 2 = a ∧ X 3 = 1 - g ∧ 0 ≤ a ∧ (g = 0 ∨ g = 1)
def FX (X Y : Nat → Int) : Prop := ∀ k, 4 ≤ k → Y k = X k
theorem FX_r (X : Nat → Int) : FX X X := fun _ _ => rfl
theorem FX_t {X Y W : Nat → Int} (h : FX X Y) (h2 : FX Y W) : FX X W := fun k hk => (h2 k hk).trans (h k hk)
theorem FX_u (X : Nat → Int) {j : Nat} (hj : j < 4) (z : Int) : FX X (updZ X j z) := fun k hk => by
  unfold updZ
  rw [if_neg (by omega)]
section TX
variable {S : Nat → Int} {n : Int}
theorem RL_a {X : Nat → Int} {a : Int} (h : RLx X n a 1) : RLx (updZ X 2 (X 2 + 1)) n (a + 1) 1 := by
  obtain ⟨h0, h2, h3, h4, h5⟩ := h
  exact ⟨h0, by show X 2 + 1 = a + 1; omega, h3, by omega, h5⟩
theorem RL_f {X : Nat → Int} {a g : Int} (h : RLx X n a g) : RLx (updZ X 3 1) n a 0 := ⟨h.1, h.2.1, by show (1 : Int) = 1 - 0; omega, h.2.2.2.1, Or.inl rfl⟩
theorem RL_u {X : Nat → Int} {a g : Int} (h : RLx X n a g) {k : Nat} (hk : 4 ≤ k) (z : Int) : RLx (updZ X k z) n a g := by
  have e : ∀ j, j < 4 → updZ X k z j = X j := fun j hj => by unfold updZ; rw [if_neg (by omega)]
  unfold RLx
  rw [e 0 (by omega), e 2 (by omega), e 3 (by omega)]
  exact h
theorem RL_E {X Y : Nat → Int} {a g : Int} {b : Bool} (h : RLx X n a g) (hy : Y = if X 3 = 0 ∧ b = true then updZ X 2 (X 2 + 1) else updZ X 3 1) : RLx Y n (uE a g b).1 (uE a g b).2 ∧ FX X Y := by
  have h3 := h.2.2.1
  have h5 := h.2.2.2.2
  by_cases q : X 3 = 0 ∧ b = true
  · rw [if_pos q] at hy
    subst hy
    have hg : g = 1 := by omega
    subst hg
    have e : uE a 1 b = (a + 1, 1) := if_pos ⟨by decide, q.2⟩
    rw [e]
    exact ⟨RL_a h, FX_u X (by omega) _⟩
  · rw [if_neg q] at hy
    subst hy
    have e : uE a g b = (a, 0) := if_neg (fun z => q ⟨by have := z.1; omega, z.2⟩)
    rw [e]
    exact ⟨RL_f h, FX_u X (by omega) _⟩
theorem uH_at {X : Nat → Int} {a g : Int} (h : RLx X n a g) : uH S n a = if X 2 < X 0 then tAt X S else -1 := by
  unfold uH tAt
  rw [h.1, h.2.1]
theorem tIs_q {X : Nat → Int} {a g lo hi : Int} (h : RLx X n a g) (hlo : 0 ≤ lo) : uB S n a lo hi = tIs X S lo hi := by
  have e := uH_at (S := S) h
  unfold uB tIs
  by_cases q : X 2 < X 0
  · rw [if_pos q] at e
    rw [e, decide_eq_true q, Bool.true_and, ← Bool.decide_and]
    exact decide_eq_decide.mpr ⟨fun z => ⟨by omega, by omega⟩, fun z => ⟨by omega, by omega⟩⟩
  · rw [if_neg q] at e
    rw [e, decide_eq_false q, Bool.false_and]
    exact decide_eq_false (by omega)
theorem dig_q {X : Nat → Int} {a g lo : Int} (h : RLx X n a g) (hlo : 0 ≤ lo) (hi : Int) : RLx (tDig X S lo hi).2 n (uD S n a g lo hi).2.1 (uD S n a g lo hi).2.2 ∧ ((uD S n a g lo hi).2.2 = 1 → (tDig X S lo hi).1 = (uD S n a g lo hi).1) ∧ FX X (tDig X S lo hi).2 := by
  have hb := tIs_q (S := S) (hi := hi) h hlo
  have e2 : (tDig X S lo hi).2 = if X 3 = 0 ∧ uB S n a lo hi = true then updZ X 2 (X 2 + 1) else updZ X 3 1 := by
    rw [hb]
    unfold tDig
    by_cases q : X 3 = 0 ∧ tIs X S lo hi = true
    · rw [if_pos q, if_pos q]
    · rw [if_neg q, if_neg q]
  obtain ⟨r1, r2⟩ := RL_E h e2
  refine ⟨r1, fun hg => ?_, r2⟩
  have h3 := h.2.2.1
  have h5 := h.2.2.2.2
  rcases uD_m S n a g lo hi with ⟨z, -⟩ | ⟨-, -, z3, z4, z5, z6⟩
  · omega
  · have c : X 3 = 0 ∧ tIs X S lo hi = true := ⟨by omega, by rw [← hb]; exact decide_eq_true ⟨by omega, by omega⟩⟩
    have e : tDig X S lo hi = (tAt X S - 48, updZ X 2 (X 2 + 1)) := if_pos c
    have e3 := uH_at (S := S) h
    rw [if_pos (tIs_y c.2).1] at e3
    rw [e, z6, e3]
theorem yr_q {X : Nat → Int} {a g : Int} (h : RLx X n a g) : ∀ i, RLx (tYr X S i).2 n (uY S n a g i).2.1 (uY S n a g i).2.2 ∧ ((uY S n a g i).2.2 = 1 → (tYr X S i).1 = (uY S n a g i).1) ∧ FX X (tYr X S i).2
  | 0 => dig_q h (by omega) 1
  | i + 1 => by
    obtain ⟨r, v, f⟩ := yr_q h i
    obtain ⟨r2, v2, f2⟩ := dig_q (S := S) (lo := 0) r (by omega) 9
    refine ⟨r2, fun hg => ?_, FX_t f f2⟩
    have hg2 : (uD S n (uY S n a g i).2.1 (uY S n a g i).2.2 0 9).2.2 = 1 := hg
    have hg1 : (uY S n a g i).2.2 = 1 := by
      have h5 := r.2.2.2.2
      rcases uD_m S n (uY S n a g i).2.1 (uY S n a g i).2.2 0 9 with ⟨z, -⟩ | ⟨-, -, z3, -⟩
      · omega
      · omega
    show 10 * (tYr X S i).1 + (tDig (tYr X S i).2 S 0 9).1 = 10 * (uY S n a g i).1 + (uD S n (uY S n a g i).2.1 (uY S n a g i).2.2 0 9).1
    rw [v hg1, v2 hg2]
theorem sgn_q {X : Nat → Int} {a g z : Int} (h : RLx X n a g) (hz : 0 ≤ z) : RLx (tSgn X S z) n (uE a g (decide (uH S n a = z))).1 (uE a g (decide (uH S n a = z))).2 ∧ FX X (tSgn X S z) := by
  refine RL_E h ?_
  have e3 := uH_at (S := S) h
  unfold tSgn
  by_cases q : X 3 = 0 ∧ X 2 < X 0 ∧ tAt X S = z
  · rw [if_pos q.2.1] at e3
    rw [if_pos q, if_pos ⟨q.1, decide_eq_true (by omega)⟩]
  · rw [if_neg q, if_neg (fun w => q ?_)]
    have w2 := of_decide_eq_true w.2
    by_cases c : X 2 < X 0
    · rw [if_pos c] at e3
      exact ⟨w.1, c, by omega⟩
    · rw [if_neg c] at e3
      omega
theorem col_q {X : Nat → Int} {a g : Int} (h : RLx X n a g) : RLx (tCol X S).2 n (uCo S n a g).2.1 (uCo S n a g).2.2 ∧ ((uCo S n a g).2.2 = 1 → (tCol X S).1 = (uCo S n a g).1) ∧ FX X (tCol X S).2 := by
  have e3 := uH_at (S := S) h
  have h3 := h.2.2.1
  have h5 := h.2.2.2.2
  by_cases q : uH S n a = 46
  · have eu : uCo S n a g = (-1, uE a g true) := if_pos q
    have c : X 2 < X 0 := by
      by_cases c : X 2 < X 0
      · exact c
      · rw [if_neg c] at e3
        omega
    rw [if_pos c] at e3
    rw [eu]
    by_cases hg : g = 1
    · subst hg
      have et : tCol X S = (-1, updZ X 2 (X 2 + 1)) := if_pos ⟨by omega, c, by omega⟩
      have ee : uE a 1 true = (a + 1, 1) := if_pos ⟨by decide, rfl⟩
      rw [et, ee]
      exact ⟨RL_a h, fun _ => rfl, FX_u X (by omega) _⟩
    · have hg0 : g = 0 := by omega
      subst hg0
      have et : tCol X S = tDig X S 0 7 := if_neg (by omega)
      have et2 : tDig X S 0 7 = (0, updZ X 3 1) := if_neg (by omega)
      have ee : uE a 0 true = (a, 0) := if_neg (fun z => z.1 rfl)
      rw [et, et2, ee]
      exact ⟨RL_f h, fun z => by have z2 : (0 : Int) = 1 := z; omega, FX_u X (by omega) _⟩
  · have eu : uCo S n a g = uD S n a g 0 7 := if_neg q
    have et : tCol X S = tDig X S 0 7 := if_neg (fun z => q (by rw [if_pos z.2.1] at e3; rw [e3]; exact z.2.2))
    rw [eu, et]
    exact dig_q h (by omega) 7
/-! digits that ascend -/
theorem zor_as (a b c : Int) : zor (zor a b) c = zor a (zor b c) := congrArg (fun z : Nat => (z : Int)) (Nat.or_assoc a.toNat b.toNat c.toNat)
theorem zor_nn (a b : Int) : 0 ≤ zor a b := Int.natCast_nonneg _
theorem zor_0 {a : Int} (h : 0 ≤ a) : zor a 0 = a := by
  obtain ⟨k, rfl⟩ := Int.eq_ofNat_of_zero_le h
  exact congrArg (fun z : Nat => (z : Int)) (Nat.or_zero k)
theorem zor_z {a : Int} (h : 0 ≤ a) : zor 0 a = a := by
  obtain ⟨k, rfl⟩ := Int.eq_ofNat_of_zero_le h
  exact congrArg (fun z : Nat => (z : Int)) (Nat.zero_or k)
theorem ris_bad {X : Nat → Int} (h : X 3 = 1) : ∀ i, tRis X S i = (0, X)
  | 0 => rfl
  | i + 1 => by
    rw [tRis, ris_bad h i]
    exact if_neg (fun z => by have z1 : X 3 = 0 := z.1; omega)
theorem ris_none {X : Nat → Int} : ∀ {i : Nat}, (∀ e : Nat, e < i → tIs X S (e : Int) (e : Int) = false) → tRis X S i = (0, X)
  | 0, _ => rfl
  | i + 1, h => by
    rw [tRis, ris_none (i := i) (fun e he => h e (by omega))]
    exact if_neg (fun z => by have z1 : tIs X S (i : Int) (i : Int) = true := z.2; rw [h i (by omega)] at z1; cases z1)
theorem ris_g {X : Nat → Int} {hi a0 base : Int} {d0 : Nat} (h0 : RLx (tRis X S d0).2 n a0 1) (hb : (tRis X S d0).1 = base) (hb0 : 0 ≤ base) (h8i : hi ≤ 8) : ∀ m : Nat, ((d0 + m : Nat) : Int) ≤ hi + 1 → ∃ (i : Nat) (st fr aa : Int), i ≤ m ∧ uAs S n hi (0, (d0 : Int), a0, 1) i = (st, fr, aa, 1) ∧ 0 ≤ st ∧ (tRis X S (d0 + m)).1 = zor base st ∧ RLx (tRis X S (d0 + m)).2 n aa 1 ∧ 0 ≤ fr ∧ fr ≤ ((d0 + m : Nat) : Int) ∧ (∀ e : Nat, fr ≤ (e : Int) → e < d0 + m → tIs (tRis X S (d0 + m)).2 S (e : Int) (e : Int) = false) ∧ FX (tRis X S d0).2 (tRis X S (d0 + m)).2
  | 0, _ => ⟨0, 0, (d0 : Int), a0, Nat.le_refl _, rfl, Int.le_refl _, by rw [zor_0 hb0]; exact hb, h0, by omega, Int.le_refl _, fun e h1 h2 => by omega, FX_r _⟩
  | m + 1, hm => by
    obtain ⟨i, st, fr, aa, h1, h2, h3, h4, h5, h6, h7, h8, h9⟩ := ris_g (hi := hi) h0 hb hb0 h8i m (by omega)
    have hs : tRis X S (d0 + (m + 1)) = if (tRis X S (d0 + m)).2 3 = 0 ∧ tIs (tRis X S (d0 + m)).2 S ((d0 + m : Nat) : Int) ((d0 + m : Nat) : Int) = true then (zor (tRis X S (d0 + m)).1 ((2 : Int) ^ (d0 + m)), updZ (tRis X S (d0 + m)).2 2 ((tRis X S (d0 + m)).2 2 + 1)) else tRis X S (d0 + m) := rfl
    rw [hs]
    generalize tRis X S (d0 + m) = T at h4 h5 h8 h9 ⊢
    by_cases q : tIs T.2 S ((d0 + m : Nat) : Int) ((d0 + m : Nat) : Int) = true
    · have hT3 : T.2 3 = 0 := by have := h5.2.2.1; omega
      obtain ⟨y1, y2, y3⟩ := tIs_y q
      have ha := uH_at (S := S) h5
      rw [if_pos y1] at ha
      have hT0 := h5.1
      have hT2 := h5.2.1
      have hgo : uGo S n (st, fr, aa, 1) = true := decide_eq_true ⟨by show ¬ (1 : Int) = 0; decide, by show aa < n; omega, by show ¬ uH S n aa = 59; omega⟩
      have hD : uD S n aa 1 fr hi = (((d0 + m : Nat) : Int), aa + 1, 1) := by
        have hB : uB S n aa fr hi = true := decide_eq_true ⟨by omega, by omega⟩
        have hE : uE aa 1 (uB S n aa fr hi) = (aa + 1, 1) := if_pos ⟨by decide, hB⟩
        unfold uD
        rw [hE]
        show (if (1 : Int) = 0 then fr else uH S n aa - 48, aa + 1, (1 : Int)) = _
        rw [if_neg (by decide), show uH S n aa - 48 = ((d0 + m : Nat) : Int) from by omega]
      have hu : uAs S n hi (0, (d0 : Int), a0, 1) (i + 1) = (zor st ((2 : Int) ^ (d0 + m)), ((d0 + m : Nat) : Int) + 1, aa + 1, 1) := by
        rw [uAs, h2, if_pos hgo]
        unfold uSt
        show (zor st (if (uD S n aa 1 fr hi).2.2 = 0 then 0 else (2 : Int) ^ (uD S n aa 1 fr hi).1.toNat), (uD S n aa 1 fr hi).1 + 1, (uD S n aa 1 fr hi).2) = _
        rw [hD]
        show (zor st (if (1 : Int) = 0 then 0 else (2 : Int) ^ (((d0 + m : Nat) : Int)).toNat), ((d0 + m : Nat) : Int) + 1, aa + 1, (1 : Int)) = _
        rw [if_neg (by decide)]
        rfl
      rw [if_pos ⟨hT3, q⟩]
      refine ⟨i + 1, _, _, _, by omega, hu, zor_nn _ _, ?_, RL_a h5, by omega, by omega, fun e he1 he2 => by omega, FX_t h9 (FX_u _ (by omega) _)⟩
      show zor T.1 ((2 : Int) ^ (d0 + m)) = _
      rw [h4, zor_as]
    · rw [if_neg (fun z => q z.2)]
      refine ⟨i, st, fr, aa, by omega, h2, h3, h4, h5, h6, by omega, fun e he1 he2 => ?_, h9⟩
      by_cases w : e = d0 + m
      · subst w
        cases c : tIs T.2 S ((d0 + m : Nat) : Int) ((d0 + m : Nat) : Int)
        · rfl
        · exact absurd c q
      · exact h8 e he1 (by omega)
theorem ris_e {X : Nat → Int} {a0 base : Int} {d0 k : Nat} (h0 : RLx (tRis X S d0).2 n a0 1) (hb : (tRis X S d0).1 = base) (hb0 : 0 ≤ base) (hd : d0 ≤ k + 1) (hk : k ≤ 7) (hT : TI (tRis X S (k + 1)).2) : (tRis X S (k + 1)).2 0 = n ∧ (tRis X S (k + 1)).2 2 = (uAs S n k (0, (d0 : Int), a0, 1) 122).2.2.1 ∧ (tRis X S (k + 1)).2 3 = 0 ∧ FX (tRis X S d0).2 (tRis X S (k + 1)).2 ∧ (((uAs S n k (0, (d0 : Int), a0, 1) 122).2.2.2 = 1 ∧ ((uAs S n k (0, (d0 : Int), a0, 1) 122).2.2.1 = n ∨ uH S n (uAs S n k (0, (d0 : Int), a0, 1) 122).2.2.1 = 59) ∧ (tRis X S (k + 1)).1 = zor base (uAs S n k (0, (d0 : Int), a0, 1) 122).1 ∧ 0 ≤ (uAs S n k (0, (d0 : Int), a0, 1) 122).1) ∨ ((uAs S n k (0, (d0 : Int), a0, 1) 122).2.2.2 = 0 ∧ (uAs S n k (0, (d0 : Int), a0, 1) 122).2.2.1 < n ∧ ¬ uH S n (uAs S n k (0, (d0 : Int), a0, 1) 122).2.2.1 = 59)) := by
  obtain ⟨i, st, fr, aa, h1, h2, h3, h4, h5, h6, h7, h8, h9⟩ := ris_g (hi := (k : Int)) h0 hb hb0 (by omega) (k + 1 - d0) (by omega)
  rw [show d0 + (k + 1 - d0) = k + 1 from by omega] at h4 h5 h8 h9
  generalize tRis X S (k + 1) = T at h4 h5 h8 h9 hT ⊢
  obtain ⟨r0, r2, r3, r4, -⟩ := id h5
  have t1 := hT.2.1
  by_cases go : uGo S n (st, fr, aa, 1) = true
  · have go2 := of_decide_eq_true go
    have g2 : aa < n := go2.2.1
    have g3 : ¬ uH S n aa = 59 := go2.2.2
    have ha := uH_at (S := S) h5
    rw [if_pos (by omega)] at ha
    have hB : uB S n aa fr k = false := by
      refine decide_eq_false (fun z => ?_)
      have z1 := z.1
      have z2 := z.2
      have h10 := h8 (uH S n aa - 48).toNat (by omega) (by omega)
      have e1 : (((uH S n aa - 48).toNat : Nat) : Int) = uH S n aa - 48 := by omega
      rw [e1] at h10
      unfold tIs at h10
      rw [decide_eq_true (by omega), decide_eq_true (by omega), decide_eq_true (by omega)] at h10
      cases h10
    have hE : uE aa 1 (uB S n aa fr k) = (aa, 0) := if_neg (fun z => by rw [hB] at z; exact absurd z.2 (by decide))
    have hD : (uD S n aa 1 fr k).2 = (aa, 0) := hE
    have hu : (uAs S n k (0, (d0 : Int), a0, 1) (i + 1)).2.2 = (aa, 0) := by
      rw [uAs, h2, if_pos go]
      exact hD
    have hg : uGo S n (uAs S n k (0, (d0 : Int), a0, 1) (i + 1)) = false := decide_eq_false (fun z => z.1 (by rw [hu]))
    rw [uAs_stop hg 122 (by omega)]
    have hu1 : (uAs S n k (0, (d0 : Int), a0, 1) (i + 1)).2.2.1 = aa := by rw [hu]
    have hu2 : (uAs S n k (0, (d0 : Int), a0, 1) (i + 1)).2.2.2 = 0 := by rw [hu]
    rw [hu1, hu2]
    exact ⟨r0, r2, by omega, h9, Or.inr ⟨rfl, g2, g3⟩⟩
  · have go1 : uGo S n (st, fr, aa, 1) = false := by
      cases c : uGo S n (st, fr, aa, 1)
      · rfl
      · exact absurd c go
    have hg : uGo S n (uAs S n k (0, (d0 : Int), a0, 1) i) = false := by rw [h2]; exact go1
    rw [uAs_stop hg 122 (by omega), h2]
    refine ⟨r0, r2, by omega, h9, Or.inl ⟨rfl, ?_, h4, h3⟩⟩
    have go2 := of_decide_eq_false go1
    by_cases c : aa < n
    · refine Or.inr ?_
      show uH S n aa = 59
      by_cases c2 : uH S n aa = 59
      · exact c2
      · exact absurd ⟨(by decide : ¬ (1 : Int) = 0), c, c2⟩ go2
    · refine Or.inl ?_
      show aa = n
      omega
end TX
