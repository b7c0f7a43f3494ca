/-! the class's text, held against the reference's -/
theorem z0_dig (X S : Nat → Int) (a b : Int) : (tDig X S a b).2 0 = X 0 := by
  unfold tDig
  split <;> rfl
theorem z0_sgn (X S : Nat → Int) (z : Int) : (tSgn X S z) 0 = X 0 := by
  unfold tSgn
  split <;> rfl
theorem z0_yr (X S : Nat → Int) : ∀ i, (tYr X S i).2 0 = X 0
  | 0 => z0_dig X S 1 1
  | i + 1 => (z0_dig (tYr X S i).2 S 0 9).trans (z0_yr X S i)
theorem z0_col (X S : Nat → Int) : (tCol X S).2 0 = X 0 := by
  unfold tCol
  split
  · rfl
  · exact z0_dig X S 0 7
theorem z0_ris (X S : Nat → Int) : ∀ i, (tRis X S i).2 0 = X 0
  | 0 => rfl
  | i + 1 => by
    rw [tRis]
    split
    · exact z0_ris X S i
    · exact z0_ris X S i
theorem z0_reign (X S : Nat → Int) : (tReign X S) 0 = X 0 := by
  have h : ∀ W : Nat → Int, (tRis (updZ (tYr (updZ X 2 (X 2 + 1)) S 3).2 6 (tYr (updZ X 2 (X 2 + 1)) S 3).1) S 8).2 0 = X 0 := fun _ => (z0_ris _ S 8).trans (z0_yr (updZ X 2 (X 2 + 1)) S 3)
  unfold tReign
  split
  · exact h X
  · exact h X
theorem z0_dieN (X S : Nat → Int) : (tDieN X S) 0 = X 0 := z0_dig (tA X) S 0 5
theorem z0_dieA (X S : Nat → Int) : (tDieA X S) 0 = X 0 := (z0_yr (tDieN X S) S 3).trans (z0_dieN X S)
theorem z0_dieS (X S : Nat → Int) : (tDieS X S) 0 = X 0 := (z0_sgn (tDieA X S) S 45).trans (z0_dieA X S)
theorem z0_die (X S : Nat → Int) : (tDie X S) 0 = X 0 := (z0_yr (tDieS X S) S 3).trans (z0_dieS X S)
theorem z0_crN (X S : Nat → Int) : (tCrN X S) 0 = X 0 := z0_dig (tA X) S 0 9
theorem z0_crack (X S : Nat → Int) : (tCrack X S) 0 = X 0 := (z0_yr (tCrN X S) S 3).trans (z0_crN X S)
theorem z0_seC (X S : Nat → Int) : (tSeC X S) 0 = X 0 := (z0_col (tCrN X S) S).trans (z0_crN X S)
theorem z0_seB (X S : Nat → Int) : (tSeB X S) 0 = X 0 := (z0_dig (tSeC X S) S 0 9).trans (z0_seC X S)
theorem z0_seD (X S : Nat → Int) : (tSeD X S) 0 = X 0 := (z0_dig (tSeB X S) S 0 9).trans (z0_seB X S)
theorem z0_seal (X S : Nat → Int) : (tSeal X S) 0 = X 0 := (z0_ris (tSeD X S) S 4).trans (z0_seD X S)
theorem z0_haN (X S : Nat → Int) : (tHaN X S) 0 = X 0 := (z0_dig (tDig (tA X) S 0 2).2 S 0 (tHaM X S)).trans (z0_dig (tA X) S 0 2)
theorem z0_hang (X S : Nat → Int) : (tHang X S) 0 = X 0 := (z0_dig (tHaN X S) S 0 5).trans (z0_haN X S)
theorem z0_entry (X S : Nat → Int) : (tEntry X S) 0 = X 0 := by
  unfold tEntry
  split
  · exact z0_reign (tKind X S) S
  · split
    · exact z0_die (tKind X S) S
    · split
      · exact z0_crack (tKind X S) S
      · split
        · exact z0_seal (tKind X S) S
        · split
          · exact z0_hang (tKind X S) S
          · rfl
theorem z0_semi (X S : Nat → Int) : (tSemi X S) 0 = X 0 := by
  unfold tSemi
  split
  · exact z0_sgn X S 59
  · rfl
theorem z0_next (X S : Nat → Int) : (tNext X S).2 0 = X 0 := by
  unfold tNext
  split
  · rfl
  · split
    · exact (z0_entry (tSemi X S) S).trans (z0_semi X S)
    · exact z0_semi X S
theorem z0_loop (X S : Nat → Int) : ∀ i, (tLoop X S i) 0 = X 0
  | 0 => rfl
  | i + 1 => (z0_next (tLoop X S i) S).trans (z0_loop X S i)
theorem z0_all (X S : Nat → Int) : (tAll X S) 0 = X 0 := by
  unfold tAll
  split
  · exact (z0_next _ S).trans (z0_loop X S _)
  · exact z0_loop X S 120
theorem tx_ok {X S : Nat → Int} {t : Int} (hS : SB S) (h : TL X ∧ BX X ∧ X 0 = t) : TL (tAll X S) ∧ BX (tAll X S) ∧ (tAll X S) 0 = t := ⟨TI_TL (tAll_ok h.1), BX_all hS h.2.1 h.1, (z0_all X S).trans h.2.2⟩
theorem uAll_SI {S : Nat → Int} {t : Int} (hS : SB S) (ht : 0 ≤ t ∧ t ≤ 120) : SI (uAll S t).2.2.2 := by
  have h := uLp_k (S := S) hS ht 122
  unfold uAll
  generalize uLp S t 122 = u at h ⊢
  exact h.2
def kAp (c t : Int) : Int := if 0 ≤ c ∧ c ≤ 255 then (if t = 120 then 2 else 0) else 1
def kLd (S : Nat → Int) (t : Int) : Int := if uErr S t = -1 then 0 else 1
section CX
variable {l : Launch} {y : MethodName} {ws : List Cond} {rm : Room} {g : va_G} {τ : Nat → ClassId} {av : List Value} {x sl sv : Nat} {ta aj me ad bd : Nat → Nat} {R T J : Nat → Nat → Int} {n o : Int} {X S V : Nat → Int} {VV WW : Nat → BS} {Q : Nat → Nat → Int} {B K : Nat → Nat → Nat → Int} {t : Int}
theorem cap {c : Int} (hC : CI Q n B V K t S R J o X VV WW) (h : uMet l y ws rm g τ av ([xoC x (ta 0) (aj 0) (me 0) sl sv (ad 0) (bd 0)] ++ txW ta X S τ) (fun v w => ((0 ≤ c ∧ c ≤ 255) ∧ X 0 < 120) ∧ v = some (Value.int (iI (X 0 + 1))) ∧ w = [xoC x (ta 0) (aj 0) (me 0) sl sv (ad 0) (bd 0)] ++ txW ta (updZ X 0 (X 0 + 1)) (updZ S (X 0).toNat c) τ) (fun E w => ((¬ (0 ≤ c ∧ c ≤ 255) ∧ E = nIA) ∨ ((0 ≤ c ∧ c ≤ 255) ∧ X 0 = 120 ∧ E = nIS)) ∧ w = [xoC x (ta 0) (aj 0) (me 0) sl sv (ad 0) (bd 0)] ++ txW ta X S τ)) : cM l y ws rm g τ av (CWl τ x sl sv ta aj me ad bd R T J n o X S V VV WW) (kAp c t) (t + 1) (kx2 nIA nIS (kAp c t)) (CW τ x Q n B V K (t + 1) (updZ S t.toNat c)) (CW τ x Q n B V K t S) := by
  have hX0 : X 0 = t := hC.2.2.1.2.2
  have hL := hC.2.2.1.1
  have hB := hC.2.2.1.2.1
  have hS := hC.2.2.2.1
  refine uMet.fr h (pc10_05 _ _ _ _ _ _ _ _ _ _) (fun v w1 hz => ?_) (fun E w1 hz => ?_) (fun v w1 hz => ?_) (fun E w1 hz => ?_)
  · obtain ⟨-, -, rfl⟩ := hz
    rfl
  · obtain ⟨-, rfl⟩ := hz
    rfl
  · obtain ⟨⟨h1, h3⟩, h2, rfl⟩ := hz
    have k0 : kAp c t = 0 := by
      unfold kAp
      rw [if_pos h1, if_neg (by omega)]
    refine ⟨CWl τ x sl sv ta aj me ad bd R T J n o (updZ X 0 (X 0 + 1)) (updZ S (X 0).toNat c) V VV WW, (pc10_05 _ _ _ _ _ _ _ _ _ _).symm, k0, by rw [← hX0]; exact h2, rfl, fun _ => ?_, fun z => absurd k0 z⟩
    rw [hX0]
    refine CW_of (hC.tx ⟨?_, ?_, hL.2.2⟩ (BX_u hB ⟨by omega, by omega⟩) (if_pos rfl) (fun j => ?_))
    · show 0 ≤ t + 1
      have := hL.1
      omega
    · show t + 1 ≤ 120
      omega
    · unfold updZ
      split
      · exact h1
      · exact hS j
  · obtain ⟨h1, rfl⟩ := hz
    have k1 : kx2 nIA nIS (kAp c t) E ∧ ¬ kAp c t = 0 := by
      unfold kAp
      rcases h1 with ⟨h1, h2⟩ | ⟨h1, h2, h3⟩
      · rw [if_neg h1]
        exact ⟨Or.inl ⟨rfl, h2⟩, by decide⟩
      · rw [if_pos h1, if_pos (by omega)]
        exact ⟨Or.inr ⟨rfl, h3⟩, by decide⟩
    exact ⟨CWl τ x sl sv ta aj me ad bd R T J n o X S V VV WW, (pc10_05 _ _ _ _ _ _ _ _ _ _).symm, k1.1, rfl, fun z => absurd z k1.2, fun _ => CW_of hC⟩
theorem cld (hC : CI Q n B V K t S R J o X VV WW) (h : uMet l y ws rm g τ av ([xoC x (ta 0) (aj 0) (me 0) sl sv (ad 0) (bd 0)] ++ (stW ad R τ ++ (meW me n o (adF VV 14) τ ++ (txW ta X S τ ++ [svC sv V τ])))) (fun v w => tErr X S = -1 ∧ v = some (Value.int (iI (eR (tAll X S) S (R00 R) (tCnt (tAll X S) S)).2)) ∧ w = [xoC x (ta 0) (aj 0) (me 0) sl sv (ad 0) (bd 0)] ++ (stW ad ((eR (tAll X S) S (R00 R) (tCnt (tAll X S) S)).1) τ ++ (meW me 0 o (adF VV 14) τ ++ (txW ta (tAll (tAll X S) S) S τ ++ [svC sv (zf V 2) τ])))) (fun E w => ¬ tErr X S = -1 ∧ E = nIS ∧ w = [xoC x (ta 0) (aj 0) (me 0) sl sv (ad 0) (bd 0)] ++ (stW ad R τ ++ (meW me n o (adF VV 14) τ ++ (txW ta (tAll X S) S τ ++ [svC sv V τ]))))) : cM l y ws rm g τ av (CWl τ x sl sv ta aj me ad bd R T J n o X S V VV WW) (kLd S t) (uAll S t).2.2.1 (kx1 nIS (kLd S t)) (CW τ x (uAll S t).2.2.2 0 B (updZ (updZ V 0 0) 1 0) K t S) (CW τ x Q n B V K t S) := by
  obtain ⟨⟨hR, hQ, e⟩, hJ, hX, hS, hG, hV, hK⟩ := hC
  have hC : CI Q n B V K t S R J o X VV WW := ⟨⟨hR, hQ, e⟩, hJ, hX, hS, hG, hV, hK⟩
  have hX1 := tx_ok hS hX
  have hX2 := tx_ok hS hX1
  obtain ⟨e1, -⟩ := tx_eq (R := R0z) hS hX.1 hX.2.2 (EQ_r _)
  obtain ⟨-, e2⟩ := tx_eq (R := R00 R) hS hX1.1 hX1.2.2 (EQ_0 R)
  generalize tAll (tAll X S) S = X2 at h hX2
  generalize tAll X S = X1 at h hX1 e2
  have hRs : SI (eR X1 S (R00 R) (tCnt X1 S)).1 := eR_SI (SI_00 hR) X1 S _
  generalize eR X1 S (R00 R) (tCnt X1 S) = ee at h e2 hRs
  rw [e1] at h
  refine uMet.fr h (pc10_01357 _ _ _ _ _ _ _ _ _ _) (fun v w1 hz => ?_) (fun E w1 hz => ?_) (fun v w1 hz => ?_) (fun E w1 hz => ?_)
  · obtain ⟨-, -, rfl⟩ := hz
    rfl
  · obtain ⟨-, -, rfl⟩ := hz
    rfl
  · obtain ⟨h1, h2, rfl⟩ := hz
    have k0 : kLd S t = 0 := if_pos h1
    obtain ⟨e3, e4⟩ := e2 h1
    have hb : 0 ≤ t ∧ t ≤ 120 := by
      have h1 := hX.1.1
      have h2 := hX.1.2.1
      have h3 := hX.2.2
      omega
    have hQs : SI (uAll S t).2.2.2 := uAll_SI hS hb
    have ez : zf V 2 = updZ (updZ V 0 0) 1 0 := by
      funext j
      unfold zf updZ
      by_cases c1 : j = 1
      · rw [if_pos (by omega), if_pos c1]
      · by_cases c0 : j = 0
        · rw [if_pos (by omega), if_neg c1, if_pos c0]
        · rw [if_neg (by omega), if_neg c1, if_neg c0]
    refine ⟨CWl τ x sl sv ta aj me ad bd ee.1 T J 0 o X2 S (zf V 2) VV WW, (pc10_01357 _ _ _ _ _ _ _ _ _ _).symm, k0, by rw [← e3]; exact h2, rfl, fun _ => ?_, fun z => absurd k0 z⟩
    rw [← ez]
    refine CW_of ⟨⟨hRs, hQs, e4⟩, hJ, hX2, hS, RG_0 _ B hG.2.1, fun j => ?_, hK.1, fun j hj => ?_⟩
    · unfold zf
      split
      · exact Or.inl rfl
      · exact hV j
    · by_cases c : j < 2
      · have c2 : zf V 2 j = 0 := if_pos c
        omega
      · have c2 : zf V 2 j = V j := if_neg c
        exact hK.2 j (c2.symm.trans hj)
  · obtain ⟨h1, h2, rfl⟩ := hz
    have k1 : kLd S t = 1 := if_neg h1
    exact ⟨CWl τ x sl sv ta aj me ad bd R T J n o X1 S V VV WW, (pc10_01357 _ _ _ _ _ _ _ _ _ _).symm, ⟨k1, h2⟩, rfl, fun z => absurd (k1.symm.trans z) (by decide), fun _ => CW_of (hC.tx hX1.1 hX1.2.1 hX1.2.2 hS)⟩
/-- what a question of the text that can't be refused comes to -/
def cR (w0 : va_W) (val : Int) (P0 : va_W → Prop) (v : Option Value) (w : va_W) : Prop := v = some (.int (iI val)) ∧ w.map Prod.fst = w0.map Prod.fst ∧ P0 w
theorem cct (hC : CI Q n B V K t S R J o X VV WW) (h : Met l y ws rm (va_Pc av (rwW g τ ([xoC x (ta 0) (aj 0) (me 0) sl sv (ad 0) (bd 0)] ++ txW ta X S τ))) (rwQ g (fun v w => v = some (Value.int (iI (X 0))) ∧ w = [xoC x (ta 0) (aj 0) (me 0) sl sv (ad 0) (bd 0)] ++ txW ta (updZ X 0 0) S τ) (inW ([xoC x (ta 0) (aj 0) (me 0) sl sv (ad 0) (bd 0)] ++ txW ta X S τ))) 0 0 (inW ([xoC x (ta 0) (aj 0) (me 0) sl sv (ad 0) (bd 0)] ++ txW ta X S τ))) : Met l y ws rm (va_Pc av (rwW g τ (CWl τ x sl sv ta aj me ad bd R T J n o X S V VV WW))) (rwQ g (cR (CWl τ x sl sv ta aj me ad bd R T J n o X S V VV WW) t (CW τ x Q n B V K 0 S)) (inW (CWl τ x sl sv ta aj me ad bd R T J n o X S V VV WW))) 0 0 (inW (CWl τ x sl sv ta aj me ad bd R T J n o X S V VV WW)) := by
  have hX0 : X 0 = t := hC.2.2.1.2.2
  have hL := hC.2.2.1.1
  have hB := hC.2.2.1.2.1
  refine rwfr h (pc10_05 _ _ _ _ _ _ _ _ _ _) (fun v w1 hz => ?_) (fun v w1 hz => ?_)
  · obtain ⟨-, rfl⟩ := hz
    rfl
  · obtain ⟨h2, rfl⟩ := hz
    exact ⟨CWl τ x sl sv ta aj me ad bd R T J n o (updZ X 0 0) S V VV WW, (pc10_05 _ _ _ _ _ _ _ _ _ _).symm, by rw [← hX0]; exact h2, rfl, CW_of (hC.tx ⟨by show (0 : Int) ≤ 0; decide, by show (0 : Int) ≤ 120; decide, hL.2.2⟩ (BX_u hB ⟨by omega, by omega⟩) (if_pos rfl) hC.2.2.2.1)⟩
theorem cep (hC : CI Q n B V K t S R J o X VV WW) (h : Met l y ws rm (va_Pc av (rwW g τ ([xoC x (ta 0) (aj 0) (me 0) sl sv (ad 0) (bd 0)] ++ txW ta X S τ))) (rwQ g (fun v w => v = some (Value.int (iI (tErr X S))) ∧ w = [xoC x (ta 0) (aj 0) (me 0) sl sv (ad 0) (bd 0)] ++ txW ta (tAll X S) S τ) (inW ([xoC x (ta 0) (aj 0) (me 0) sl sv (ad 0) (bd 0)] ++ txW ta X S τ))) 0 0 (inW ([xoC x (ta 0) (aj 0) (me 0) sl sv (ad 0) (bd 0)] ++ txW ta X S τ))) : Met l y ws rm (va_Pc av (rwW g τ (CWl τ x sl sv ta aj me ad bd R T J n o X S V VV WW))) (rwQ g (cR (CWl τ x sl sv ta aj me ad bd R T J n o X S V VV WW) (uErr S t) (CW τ x Q n B V K t S)) (inW (CWl τ x sl sv ta aj me ad bd R T J n o X S V VV WW))) 0 0 (inW (CWl τ x sl sv ta aj me ad bd R T J n o X S V VV WW)) := by
  have hX := hC.2.2.1
  have hS := hC.2.2.2.1
  have hX1 := tx_ok hS hX
  obtain ⟨e1, -⟩ := tx_eq (R := R0z) hS hX.1 hX.2.2 (EQ_r _)
  rw [e1] at h
  generalize tAll X S = X1 at h hX1
  refine rwfr h (pc10_05 _ _ _ _ _ _ _ _ _ _) (fun v w1 hz => ?_) (fun v w1 hz => ?_)
  · obtain ⟨-, rfl⟩ := hz
    rfl
  · obtain ⟨h2, rfl⟩ := hz
    exact ⟨CWl τ x sl sv ta aj me ad bd R T J n o X1 S V VV WW, (pc10_05 _ _ _ _ _ _ _ _ _ _).symm, h2, rfl, CW_of (hC.tx hX1.1 hX1.2.1 hX1.2.2 hS)⟩
end CX
