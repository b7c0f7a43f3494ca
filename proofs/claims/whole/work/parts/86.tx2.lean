/-! the class's reading and the reference's: the entries -/
section TY
variable {S : Nat → Int} {n : Int}
/-- what an entry comes to: the class at Y, the reference at r; A: what is done -/
def EN (S : Nat → Int) (n : Int) (Y : Nat → Int) (r : Int × Int × Int × (Nat → Nat → Int)) (lf : Int) (A : Int × (Nat → Nat → Int)) : Prop := Y 0 = n ∧ Y 2 = r.1 ∧ ((r.2.1 = 1 ∧ Y 3 = 0 ∧ (r.1 = n ∨ uH S n r.1 = 59) ∧ r.2.2.1 = lf + (if A.1 < 0 then 1 else 0) ∧ r.2.2.2 = A.2) ∨ (r.2.1 = 0 ∧ (Y 3 = 1 ∨ (Y 3 = 0 ∧ r.1 < n ∧ ¬ uH S n r.1 = 59))))
theorem fin_1 {lf : Int} {D : Nat → Nat → Int} {A' A : Int × (Nat → Nat → Int)} (h : A' = A) : lf + (if ¬ (1 : Int) = 0 ∧ A'.1 < 0 then 1 else 0) = lf + (if A.1 < 0 then 1 else 0) ∧ (if (1 : Int) = 0 then D else A'.2) = A.2 := by
  subst h
  refine ⟨?_, if_neg (by decide)⟩
  by_cases c : A'.1 < 0
  · rw [if_pos ⟨by decide, c⟩, if_pos c]
  · rw [if_neg (fun z => c z.2), if_neg c]
theorem EN_end {Y Z : Nat → Int} {a g lf : Int} {D : Nat → Nat → Int} {A A' : Int × (Nat → Nat → Int)} (h : RLx Y n a g) (hT : Y 2 ≤ Y 0) (e0 : Z 0 = Y 0) (e2 : Z 2 = Y 2) (e3 : Z 3 = Y 3) (hA : g = 1 → A' = A) : EN S n Z (uFin a (uEnd S n a g) lf D A') lf A := by
  obtain ⟨r0, r2, r3, r4, r5⟩ := id h
  refine ⟨by omega, by show Z 2 = a; omega, ?_⟩
  by_cases q : ¬ g = 0 ∧ (a = n ∨ uH S n a = 59)
  · have e : uEnd S n a g = 1 := if_pos q
    have q1 := q.1
    have hg : g = 1 := by omega
    rw [e]
    exact Or.inl ⟨rfl, by omega, q.2, (fin_1 (lf := lf) (D := D) (hA hg)).1, (fin_1 (lf := lf) (D := D) (hA hg)).2⟩
  · have e : uEnd S n a g = 0 := if_neg q
    rw [e]
    refine Or.inr ⟨rfl, ?_⟩
    by_cases hg : g = 0
    · exact Or.inl (by omega)
    · have hn : ¬ a = n := fun z => q ⟨hg, Or.inl z⟩
      exact Or.inr ⟨by omega, by show a < n; omega, fun z => q ⟨hg, Or.inr z⟩⟩
theorem EN_as {Z : Nat → Int} {u : Int × Int × Int × Int} {lf : Int} {D : Nat → Nat → Int} {A A' : Int × (Nat → Nat → Int)} (z0 : Z 0 = n) (z2 : Z 2 = u.2.2.1) (h : (u.2.2.2 = 1 ∧ Z 3 = 0 ∧ (u.2.2.1 = n ∨ uH S n u.2.2.1 = 59) ∧ A' = A) ∨ (u.2.2.2 = 0 ∧ (Z 3 = 1 ∨ (Z 3 = 0 ∧ u.2.2.1 < n ∧ ¬ uH S n u.2.2.1 = 59)))) : EN S n Z (uFin u.2.2.1 u.2.2.2 lf D A') lf A := by
  refine ⟨z0, z2, ?_⟩
  rcases h with ⟨h1, h2, h3, h4⟩ | ⟨h1, h2⟩
  · rw [h1]
    exact Or.inl ⟨rfl, h2, h3, (fin_1 (lf := lf) (D := D) h4).1, (fin_1 (lf := lf) (D := D) h4).2⟩
  · rw [h1]
    exact Or.inr ⟨rfl, h2⟩
section EA
variable {D : Nat → Nat → Int} {W : Nat → Int}
theorem en_r (h : W 4 = 114) : aEnter D W = aReign D (W 6) (W 10) := if_pos h
theorem en_d (h : W 4 = 100) : aEnter D W = aDie D (W 5) (W 6) (W 7) := by
  unfold aEnter
  rw [if_neg (by omega), if_pos h]
theorem en_k (h : W 4 = 107) : aEnter D W = aCrack D (W 5) (W 6) := by
  unfold aEnter
  rw [if_neg (by omega), if_neg (by omega), if_pos h]
theorem en_s {m : Int} (h : (W 4 = 119 ∧ m = 0) ∨ (W 4 = 98 ∧ m = 1)) : aEnter D W = aSeal D (W 5) m (W 8) (W 9) (W 10) := by
  unfold aEnter
  rcases h with ⟨h, rfl⟩ | ⟨h, rfl⟩
  · rw [if_neg (by omega), if_neg (by omega), if_neg (by omega), if_pos h]
  · rw [if_neg (by omega), if_neg (by omega), if_neg (by omega), if_neg (by omega), if_pos h]
theorem en_h (h : W 4 = 104) : aEnter D W = aHang D (W 5) (W 11) := by
  unfold aEnter
  rw [if_neg (by omega), if_neg (by omega), if_neg (by omega), if_neg (by omega), if_neg (by omega)]
end EA
theorem uY_g {a g : Int} (hg : g = 0 ∨ g = 1) {i : Nat} (h : (uY S n a g i).2.2 = 1) : g = 1 := by
  have := (uY_le S n a g i).2 (by omega)
  omega
theorem uD_g {a g lo hi : Int} (hg : g = 0 ∨ g = 1) (h : (uD S n a g lo hi).2.2 = 1) : g = 1 := by
  have := (uD_le S n a g lo hi).2 (by omega)
  omega
theorem uE_g {a g : Int} {b : Bool} (hg : g = 0 ∨ g = 1) (h : (uE a g b).2 = 1) : g = 1 := by
  have := (uE_le a g b).2 (by omega)
  omega
theorem dig_0 {X : Nat → Int} {a g lo : Int} (h : RLx X n a g) (hlo : 0 ≤ lo) {hi : Int} (hz : (uD S n a g lo hi).2.2 = 0) : (tDig X S lo hi).1 = 0 := by
  obtain ⟨r, -, -⟩ := dig_q (S := S) h hlo hi
  have r3 := r.2.2.1
  rw [hz] at r3
  by_cases c : X 3 = 0 ∧ tIs X S lo hi = true
  · have e : tDig X S lo hi = (tAt X S - 48, updZ X 2 (X 2 + 1)) := if_pos c
    rw [e] at r3
    have r4 : X 3 = 1 - 0 := r3
    have := c.1
    omega
  · have e : tDig X S lo hi = (0, updZ X 3 1) := if_neg c
    rw [e]
theorem die_q {X : Nat → Int} {a lf : Int} {D : Nat → Nat → Int} (h : RLx X n a 1) (hT : TI X) (hl : X 2 < X 0) (h4 : X 4 = 100) : EN S n (tDie X S) (uDi S n (a + 1) 1 lf D) lf (aEnter D (tDie X S)) := by
  have hA : RLx (tA X) n (a + 1) 1 := RL_a h
  have t1 : TI (tDieN X S) := TI_u (tDig_ok (TI_tA hT hl) 0 5) (by omega)
  have t2 : TI (tDieA X S) := TI_u (tYr_ok t1 3) (by omega)
  have t3 : TI (tDieS X S) := tSgn_ok t2 45
  have t4 := tYr_ok (S := S) t3 3
  obtain ⟨r1, v1, f1⟩ := dig_q (S := S) (lo := 0) hA (by omega) 5
  have r1' : RLx (tDieN X S) n _ _ := RL_u r1 (k := 5) (by omega) _
  obtain ⟨r2, v2, f2⟩ := yr_q (S := S) r1' 3
  have r2' : RLx (tDieA X S) n _ _ := RL_u r2 (k := 6) (by omega) _
  obtain ⟨r3, f3⟩ := sgn_q (S := S) (z := 45) r2' (by omega)
  have r3' : RLx (tDieS X S) n _ _ := r3
  obtain ⟨r4, v4, f4⟩ := yr_q (S := S) r3' 3
  refine (EN_end (Z := tDie X S) r4 t4.2.1 rfl rfl rfl (fun hg => ?_) : EN S n (tDie X S) (uDi S n (a + 1) 1 lf D) lf (aEnter D (tDie X S)))
  have g3 := uY_g r3.2.2.2.2 hg
  have g2 := uE_g r2.2.2.2.2 g3
  have g1 := uY_g r1.2.2.2.2 g2
  have w4 : (tDie X S) 4 = 100 := (f4 4 (by omega)).trans ((f3 4 (by omega)).trans ((f2 4 (by omega)).trans ((f1 4 (by omega)).trans h4)))
  have w5 : (tDie X S) 5 = (tDig (tA X) S 0 5).1 := (f4 5 (by omega)).trans ((f3 5 (by omega)).trans (f2 5 (by omega)))
  have w6 : (tDie X S) 6 = (tYr (tDieN X S) S 3).1 := (f4 6 (by omega)).trans (f3 6 (by omega))
  have w7 : (tDie X S) 7 = (tYr (tDieS X S) S 3).1 := rfl
  rw [en_d w4, w5, w6, w7, v1 g1, v2 g2, v4 hg]
theorem crack_q {X : Nat → Int} {a lf : Int} {D : Nat → Nat → Int} (h : RLx X n a 1) (hT : TI X) (hl : X 2 < X 0) (h4 : X 4 = 107) : EN S n (tCrack X S) (uCr S n (a + 1) 1 lf D) lf (aEnter D (tCrack X S)) := by
  have hA : RLx (tA X) n (a + 1) 1 := RL_a h
  have t1 : TI (tCrN X S) := tCrN_ok hT hl
  have t2 := tYr_ok (S := S) t1 3
  obtain ⟨r1, v1, f1⟩ := dig_q (S := S) (lo := 0) hA (by omega) 9
  have r1' : RLx (tCrN X S) n _ _ := RL_u r1 (k := 5) (by omega) _
  obtain ⟨r2, v2, f2⟩ := yr_q (S := S) r1' 3
  refine (EN_end (Z := tCrack X S) r2 t2.2.1 rfl rfl rfl (fun hg => ?_) : EN S n (tCrack X S) (uCr S n (a + 1) 1 lf D) lf (aEnter D (tCrack X S)))
  have g1 := uY_g r1.2.2.2.2 hg
  have w4 : (tCrack X S) 4 = 107 := (f2 4 (by omega)).trans ((f1 4 (by omega)).trans h4)
  have w5 : (tCrack X S) 5 = (tDig (tA X) S 0 9).1 := f2 5 (by omega)
  have w6 : (tCrack X S) 6 = (tYr (tCrN X S) S 3).1 := rfl
  rw [en_k w4, w5, w6, v1 g1, v2 hg]
theorem hang_q {X : Nat → Int} {a lf : Int} {D : Nat → Nat → Int} (h : RLx X n a 1) (hT : TI X) (hl : X 2 < X 0) (h4 : X 4 = 104) : EN S n (tHang X S) (uHa S n (a + 1) 1 lf D) lf (aEnter D (tHang X S)) := by
  have hA : RLx (tA X) n (a + 1) 1 := RL_a h
  have t0 := tDig_ok (S := S) (TI_tA hT hl) 0 2
  have t1 : TI (tHaN X S) := TI_u (tDig_ok t0 0 (tHaM X S)) (by omega)
  have t2 := tDig_ok (S := S) t1 0 5
  obtain ⟨r1, v1, f1⟩ := dig_q (S := S) (lo := 0) hA (by omega) 2
  have hM : tHaM X S = if (uD S n (a + 1) 1 0 2).1 = 2 then 3 else 9 := by
    unfold tHaM
    have h5 := r1.2.2.2.2
    by_cases g : (uD S n (a + 1) 1 0 2).2.2 = 1
    · rw [v1 g]
    · have e1 := dig_0 (S := S) (lo := 0) (hi := 2) hA (by omega) (by omega)
      have e2 : (uD S n (a + 1) 1 0 2).1 = 0 := by
        rcases uD_m S n (a + 1) 1 0 2 with ⟨-, -, z⟩ | ⟨z, -⟩
        · exact z
        · exact absurd z g
      rw [e1, e2]
  obtain ⟨r2, v2, f2⟩ := dig_q (S := S) (lo := 0) r1 (by omega) (tHaM X S)
  have r2' : RLx (tHaN X S) n _ _ := RL_u r2 (k := 5) (by omega) _
  obtain ⟨r3, v3, f3⟩ := dig_q (S := S) (lo := 0) r2' (by omega) 5
  rw [hM] at v2 r3 v3
  refine (EN_end (Z := tHang X S) r3 t2.2.1 rfl rfl rfl (fun hg => ?_) : EN S n (tHang X S) (uHa S n (a + 1) 1 lf D) lf (aEnter D (tHang X S)))
  rw [hM] at r2
  have g2 := uD_g r2.2.2.2.2 hg
  have g1 := uD_g r1.2.2.2.2 g2
  have w4 : (tHang X S) 4 = 104 := (f3 4 (by omega)).trans ((f2 4 (by omega)).trans ((f1 4 (by omega)).trans h4))
  have w5 : (tHang X S) 5 = 10 * (tDig (tA X) S 0 2).1 + (tDig (tDig (tA X) S 0 2).2 S 0 (tHaM X S)).1 := f3 5 (by omega)
  have w11 : (tHang X S) 11 = (tDig (tHaN X S) S 0 5).1 := rfl
  rw [hM] at w5
  rw [en_h w4, w5, w11, v1 g1, v2 g2, v3 hg]
theorem uCo_g {a g : Int} (hg : g = 0 ∨ g = 1) (h : (uCo S n a g).2.2 = 1) : g = 1 := by
  unfold uCo at h
  by_cases c : uH S n a = 46
  · rw [if_pos c] at h
    exact uE_g hg h
  · rw [if_neg c] at h
    exact uD_g hg h
theorem uAs_0 {k : Int} {s : Int × Int × Int × Int} (h : s.2.2.2 = 0) : uAs S n k s 122 = s := uAs_stop (S := S) (n := n) (hi := k) (s0 := s) (i := 0) (decide_eq_false (fun z => z.1 h)) 122 (by omega)
theorem seal_q {X : Nat → Int} {a lf m : Int} {D : Nat → Nat → Int} (h : RLx X n a 1) (hT : TI X) (hl : X 2 < X 0) (h4 : (X 4 = 119 ∧ m = 0) ∨ (X 4 = 98 ∧ m = 1)) : EN S n (tSeal X S) (uSe S n (a + 1) 1 lf D m) lf (aEnter D (tSeal X S)) := by
  have hA : RLx (tA X) n (a + 1) 1 := RL_a h
  have t1 : TI (tSeC X S) := TI_u (tCol_ok (tCrN_ok hT hl)) (by omega)
  have t2 : TI (tSeB X S) := TI_u (tDig_ok t1 0 9) (by omega)
  have t3 : TI (tSeD X S) := TI_u (tDig_ok t2 0 9) (by omega)
  obtain ⟨r1, v1, f1⟩ := dig_q (S := S) (lo := 0) hA (by omega) 9
  have r1' : RLx (tCrN X S) n _ _ := RL_u r1 (k := 5) (by omega) _
  obtain ⟨r2, v2, f2⟩ := col_q (S := S) r1'
  have r2' : RLx (tSeC X S) n _ _ := RL_u r2 (k := 8) (by omega) _
  obtain ⟨r3, v3, f3⟩ := dig_q (S := S) (lo := 0) r2' (by omega) 9
  have r3' : RLx (tSeB X S) n _ _ := RL_u r3 (k := 9) (by omega) _
  obtain ⟨r4, v4, f4⟩ := dig_q (S := S) (lo := 0) r3' (by omega) 9
  have r4' : RLx (tSeD X S) n _ _ := RL_u r4 (k := 9) (by omega) _
  have key : ∀ (b2 : Int × Int × Int), RLx (tSeD X S) n b2.2.1 b2.2.2 → (b2.2.2 = 1 → ∀ u1 : Int, aSeal D (uD S n (a + 1) 1 0 9).1 m (uCo S n (uD S n (a + 1) 1 0 9).2.1 (uD S n (a + 1) 1 0 9).2.2).1 (10 * (uD S n (uCo S n (uD S n (a + 1) 1 0 9).2.1 (uD S n (a + 1) 1 0 9).2.2).2.1 (uCo S n (uD S n (a + 1) 1 0 9).2.1 (uD S n (a + 1) 1 0 9).2.2).2.2 0 9).1 + b2.1) u1 = aSeal D ((tSeD X S) 5) m ((tSeD X S) 8) ((tSeD X S) 9) u1) → EN S n (tSeal X S) (uSe5 S n lf D m (uD S n (a + 1) 1 0 9) (uCo S n (uD S n (a + 1) 1 0 9).2.1 (uD S n (a + 1) 1 0 9).2.2) (uD S n (uCo S n (uD S n (a + 1) 1 0 9).2.1 (uD S n (a + 1) 1 0 9).2.2).2.1 (uCo S n (uD S n (a + 1) 1 0 9).2.1 (uD S n (a + 1) 1 0 9).2.2).2.2 0 9) b2) lf (aEnter D (tSeal X S)) := by
    intro b2 hR hV
    by_cases g : b2.2.2 = 1
    · rw [g] at hR
      obtain ⟨q0, q2, q3, qf, qe⟩ := ris_e (S := S) (X := tSeD X S) (d0 := 0) (k := 3) (base := 0) (a0 := b2.2.1) hR rfl (Int.le_refl 0) (by omega) (by omega) (tRis_ok t3 4).1
      have eb : ((0 : Int), (0 : Int), b2.2.1, b2.2.2) = (0, ((0 : Nat) : Int), b2.2.1, 1) := by rw [g]; rfl
      have w4 : ((tSeal X S) 4 = 119 ∧ m = 0) ∨ ((tSeal X S) 4 = 98 ∧ m = 1) := by
        have e : (tSeal X S) 4 = X 4 := (qf 4 (by omega)).trans ((f4 4 (by omega)).trans ((f3 4 (by omega)).trans ((f2 4 (by omega)).trans (f1 4 (by omega)))))
        rw [e]
        exact h4
      have eU : uAs S n 3 (0, 0, b2.2.1, b2.2.2) 122 = uAs S n ((3 : Nat) : Int) (0, ((0 : Nat) : Int), b2.2.1, 1) 122 := by rw [show ((3 : Nat) : Int) = 3 from rfl, eb]
      unfold uSe5
      rw [eU]
      generalize uAs S n ((3 : Nat) : Int) (0, ((0 : Nat) : Int), b2.2.1, 1) 122 = U at q2 qe ⊢
      have q2b : (tSeal X S) 2 = U.2.2.1 := q2
      refine (EN_as (Z := tSeal X S) (u := U) q0 q2b ?_ : EN S n (tSeal X S) _ lf (aEnter D (tSeal X S)))
      rcases qe with ⟨c1, c2, c3, c4⟩ | ⟨c1, c2, c3⟩
      · refine Or.inl ⟨c1, q3, c2, ?_⟩
        have w5 : (tSeal X S) 5 = (tSeD X S) 5 := qf 5 (by omega)
        have w8 : (tSeal X S) 8 = (tSeD X S) 8 := qf 8 (by omega)
        have w9 : (tSeal X S) 9 = (tSeD X S) 9 := qf 9 (by omega)
        have w10 : (tSeal X S) 10 = U.1 := c3.trans (zor_z c4)
        rw [en_s w4, w5, w8, w9, w10]
        exact hV g _
      · exact Or.inr ⟨c1, Or.inr ⟨q3, c2, c3⟩⟩
    · have h5 := hR.2.2.2.2
      have g0 : b2.2.2 = 0 := by omega
      have hu : uAs S n 3 (0, 0, b2.2.1, b2.2.2) 122 = (0, 0, b2.2.1, b2.2.2) := uAs_0 g0
      rw [g0] at hR
      have hb := ris_bad (S := S) (X := tSeD X S) (by have := hR.2.2.1; omega) 4
      have z : tSeal X S = updZ (tSeD X S) 10 0 := by
        unfold tSeal
        rw [hb]
      unfold uSe5
      rw [hu]
      refine (EN_as (Z := tSeal X S) (u := (0, 0, b2.2.1, b2.2.2)) (by rw [z]; exact hR.1) (by rw [z]; exact hR.2.1) (Or.inr ⟨g0, Or.inl (by rw [z]; exact hR.2.2.1)⟩) : EN S n (tSeal X S) _ lf (aEnter D (tSeal X S)))
  refine (key _ r4' (fun hg u1 => ?_) : EN S n (tSeal X S) (uSe S n (a + 1) 1 lf D m) lf (aEnter D (tSeal X S)))
  have g3 := uD_g r3.2.2.2.2 hg
  have g2 := uD_g r2.2.2.2.2 g3
  have g1 : (uD S n (a + 1) 1 0 9).2.2 = 1 := by
    have h5 := r1.2.2.2.2
    have := (uCo_g (S := S) (n := n) h5 g2)
    exact this
  have w5 : (tSeD X S) 5 = (tDig (tA X) S 0 9).1 := (f4 5 (by omega)).trans ((f3 5 (by omega)).trans (f2 5 (by omega)))
  have w8 : (tSeD X S) 8 = (tCol (tCrN X S) S).1 := (f4 8 (by omega)).trans (f3 8 (by omega))
  have w9 : (tSeD X S) 9 = 10 * (tDig (tSeC X S) S 0 9).1 + (tDig (tSeB X S) S 0 9).1 := rfl
  rw [w5, w8, w9, v1 g1, v2 g2, v3 g3, v4 hg]
theorem reign_q {X : Nat → Int} {a lf : Int} {D : Nat → Nat → Int} (h : RLx X n a 1) (hT : TI X) (hl : X 2 < X 0) (h4 : X 4 = 114) : EN S n (tReign X S) (uRe S n (a + 1) 1 lf D) lf (aEnter D (tReign X S)) := by
  have hA : RLx (tA X) n (a + 1) 1 := RL_a h
  have t1 := tYr_ok (S := S) (TI_tA hT hl) 3
  obtain ⟨r1, v1, f1⟩ := yr_q (S := S) hA 3
  obtain ⟨Y, hY⟩ : ∃ Y, updZ (tYr (tA X) S 3).2 6 (tYr (tA X) S 3).1 = Y := ⟨_, rfl⟩
  have tY : TI Y := hY ▸ TI_u t1 (k := 6) (by omega)
  have rY : RLx Y n (uY S n (a + 1) 1 3).2.1 (uY S n (a + 1) 1 3).2.2 := hY ▸ RL_u r1 (k := 6) (by omega) _
  have y4 : Y 4 = 114 := by rw [← hY]; exact (f1 4 (by omega)).trans h4
  have y6 : Y 6 = (tYr (tA X) S 3).1 := by rw [← hY]; rfl
  have eR : tReign X S = if (tRis Y S 8).1 = 0 then updZ (updZ (tRis Y S 8).2 10 (tRis Y S 8).1) 3 1 else updZ (tRis Y S 8).2 10 (tRis Y S 8).1 := by rw [← hY]; rfl
  rw [eR]
  show EN S n _ (uRe3 S n lf D (uY S n (a + 1) 1 3) (uD S n (uY S n (a + 1) 1 3).2.1 (uY S n (a + 1) 1 3).2.2 0 7)) lf _
  have hdm := uD_m S n (uY S n (a + 1) 1 3).2.1 (uY S n (a + 1) 1 3).2.2 0 7
  generalize hy : uY S n (a + 1) 1 3 = y at rY hdm v1 ⊢
  generalize hd : uD S n y.2.1 y.2.2 0 7 = d at hdm ⊢
  rcases hdm with ⟨d1, d2, d3⟩ | ⟨d1, d2, d3, d4, d5, d6⟩
  · have hn : tRis Y S 8 = (0, Y) := by
      by_cases g : Y 3 = 1
      · exact ris_bad g 8
      · refine ris_none (fun e he => ?_)
        have hb := tIs_q (S := S) (lo := 0) (hi := 7) rY (by omega)
        have h3 := rY.2.2.1
        have h5 := rY.2.2.2.2
        have hB : uB S n y.2.1 0 7 = false := by
          cases c : uB S n y.2.1 0 7
          · rfl
          · have e1 : uE y.2.1 y.2.2 (uB S n y.2.1 0 7) = (y.2.1 + 1, 1) := if_pos ⟨by omega, c⟩
            have e2 : d.2 = (y.2.1 + 1, 1) := by rw [← hd]; exact e1
            rw [e2] at d1
            have d9 : (1 : Int) = 0 := d1
            omega
        rw [hb] at hB
        cases c : tIs Y S (e : Int) (e : Int)
        · rfl
        · obtain ⟨c1, c2, c3⟩ := tIs_y c
          unfold tIs at hB
          rw [decide_eq_true c1, decide_eq_true (by omega), decide_eq_true (by omega)] at hB
          cases hB
    have hu : uAs S n 7 (0, d.1 + 1, d.2.1, d.2.2) 122 = (0, d.1 + 1, d.2.1, d.2.2) := uAs_0 d1
    rw [hn, if_pos rfl]
    refine EN_as (u := uAs S n 7 (0, d.1 + 1, d.2.1, d.2.2) 122) rY.1 (by rw [hu]; exact rY.2.1.trans d2.symm) (Or.inr ⟨by rw [hu]; exact d1, Or.inl rfl⟩)
  · have h5 := rY.2.2.2.2
    have g1 : y.2.2 = 1 := by omega
    rw [g1] at rY
    have h3 := rY.2.2.1
    have c : tIs Y S 0 7 = true := by
      rw [← tIs_q (S := S) rY (by omega)]
      exact decide_eq_true ⟨by omega, by omega⟩
    obtain ⟨c1, c2, c3⟩ := tIs_y c
    have ha := uH_at (S := S) rY
    rw [if_pos c1] at ha
    have hk : tRis Y S d.1.toNat = (0, Y) := ris_none (fun e he => by
      cases z : tIs Y S (e : Int) (e : Int)
      · rfl
      · obtain ⟨z1, z2, z3⟩ := tIs_y z
        omega)
    have hk1 : tRis Y S (d.1.toNat + 1) = (zor 0 ((2 : Int) ^ d.1.toNat), updZ Y 2 (Y 2 + 1)) := by
      rw [tRis, hk]
      refine if_pos ⟨by show Y 3 = 0; omega, ?_⟩
      show tIs Y S (d.1.toNat : Int) (d.1.toNat : Int) = true
      unfold tIs
      rw [decide_eq_true c1, decide_eq_true (by omega), decide_eq_true (by omega)]
      rfl
    have hp : (0 : Int) ≤ (2 : Int) ^ d.1.toNat := by have := pow_8 (k := d.1.toNat) (by omega); omega
    have rK : RLx (tRis Y S (d.1.toNat + 1)).2 n d.2.1 1 := by
      rw [hk1, d2]
      exact RL_a rY
    obtain ⟨q0, q2, q3, qf, qe⟩ := ris_e (S := S) (X := Y) (d0 := d.1.toNat + 1) (k := 7) (base := (2 : Int) ^ d.1.toNat) (a0 := d.2.1) rK (by rw [hk1]; exact zor_z hp) hp (by omega) (by omega) (tRis_ok tY 8).1
    have eb : ((0 : Int), d.1 + 1, d.2.1, d.2.2) = (0, ((d.1.toNat + 1 : Nat) : Int), d.2.1, 1) := by
      rw [d1, show ((d.1.toNat + 1 : Nat) : Int) = d.1 + 1 from by omega]
    have qf2 : FX Y (tRis Y S 8).2 := FX_t (FX_t (FX_u Y (j := 2) (by omega) (Y 2 + 1)) (by rw [hk1] at qf; exact qf)) (FX_r _)
    have eU : uAs S n 7 (0, d.1 + 1, d.2.1, d.2.2) 122 = uAs S n ((7 : Nat) : Int) (0, ((d.1.toNat + 1 : Nat) : Int), d.2.1, 1) 122 := by rw [show ((7 : Nat) : Int) = 7 from rfl, eb]
    unfold uRe3
    rw [eU]
    generalize uAs S n ((7 : Nat) : Int) (0, ((d.1.toNat + 1 : Nat) : Int), d.2.1, 1) 122 = U at q2 qe ⊢
    show EN S n _ (uFin U.2.2.1 U.2.2.2 lf D (aReign D y.1 (zor ((2 : Int) ^ d.1.toNat) U.1))) lf _
    have q0b : (tRis Y S 8).2 0 = n := q0
    have q2b : (tRis Y S 8).2 2 = U.2.2.1 := q2
    have q3b : (tRis Y S 8).2 3 = 0 := q3
    have qeb : (U.2.2.2 = 1 ∧ (U.2.2.1 = n ∨ uH S n U.2.2.1 = 59) ∧ (tRis Y S 8).1 = zor ((2 : Int) ^ d.1.toNat) U.1 ∧ 0 ≤ U.1) ∨ (U.2.2.2 = 0 ∧ U.2.2.1 < n ∧ ¬ uH S n U.2.2.1 = 59) := qe
    clear q0 q2 q3 qe qf
    generalize tRis Y S 8 = T at q0b q2b q3b qeb qf2 ⊢
    obtain ⟨q0, q2, q3, qe⟩ := And.intro q0b (And.intro q2b (And.intro q3b qeb))
    rcases qe with ⟨e1, e2, e3, e4⟩ | ⟨e1, e2, e3⟩
    · have hnz : ¬ T.1 = 0 := by
        rw [e3]
        intro z
        have z2 := (zor_nz hp e4).mp z
        have := pow_8 (k := d.1.toNat) (by omega)
        omega
      rw [if_neg hnz]
      refine EN_as q0 q2 (Or.inl ⟨e1, q3, e2, ?_⟩)
      have w4 : (updZ T.2 10 T.1) 4 = 114 := (qf2 4 (by omega)).trans y4
      have w6 : (updZ T.2 10 T.1) 6 = y.1 := (qf2 6 (by omega)).trans (y6.trans (v1 g1))
      have w10 : (updZ T.2 10 T.1) 10 = T.1 := rfl
      rw [en_r w4, w6, w10, e3]
    · by_cases hz : T.1 = 0
      · rw [if_pos hz]
        exact EN_as q0 q2 (Or.inr ⟨e1, Or.inl rfl⟩)
      · rw [if_neg hz]
        exact EN_as q0 q2 (Or.inr ⟨e1, Or.inr ⟨q3, e2, e3⟩⟩)
end TY
