/-! the reference's entries: place, whether it is good, how many are left out, the row -/
def uFin (a g lf : Int) (D : Nat → Nat → Int) (r : Int × (Nat → Nat → Int)) : Int × Int × Int × (Nat → Nat → Int) := (a, g, lf + (if ¬ g = 0 ∧ r.1 < 0 then 1 else 0), if g = 0 then D else r.2)
theorem uFin_t {a g lf : Int} {D : Nat → Nat → Int} {r : Int × (Nat → Nat → Int)} {b : Bool} (h : decide (¬ g = 0 ∧ b = true) = true) (hr : 0 ≤ r.1) : (a, g, lf + (if ¬ g = 0 ∧ b = false then 1 else 0), r.2) = uFin a g lf D r := by
  have h1 := of_decide_eq_true h
  unfold uFin
  rw [if_neg (by rintro ⟨-, q⟩; rw [h1.2] at q; cases q), if_neg (by rintro ⟨-, q⟩; omega), if_neg h1.1]
theorem uFin_f {a g lf : Int} {D : Nat → Nat → Int} {r : Int × (Nat → Nat → Int)} {b : Bool} (h : decide (¬ g = 0 ∧ b = true) = false) (hr : ¬ g = 0 → b = false → r.1 < 0 ∧ r.2 = D) : (a, g, lf + (if ¬ g = 0 ∧ b = false then 1 else 0), D) = uFin a g lf D r := by
  have h1 := of_decide_eq_false h
  unfold uFin
  by_cases q : g = 0
  · rw [if_neg (fun z => z.1 q), if_neg (fun z => z.1 q), if_pos q]
  · have hb : b = false := by
      cases b
      · rfl
      · exact absurd ⟨q, rfl⟩ h1
    obtain ⟨h2, h3⟩ := hr q hb
    rw [if_pos ⟨q, hb⟩, if_pos ⟨q, h2⟩, if_neg q, h3]
def uRe4 (lf : Int) (D : Nat → Nat → Int) (y d : Int × Int × Int) (u : Int × Int × Int × Int) : Int × Int × Int × (Nat → Nat → Int) := uFin u.2.2.1 u.2.2.2 lf D (aReign D y.1 (zor ((2 : Int) ^ d.1.toNat) u.1))
def uRe3 (S : Nat → Int) (n lf : Int) (D : Nat → Nat → Int) (y d : Int × Int × Int) : Int × Int × Int × (Nat → Nat → Int) := uRe4 lf D y d (uAs S n 7 (0, d.1 + 1, d.2.1, d.2.2) 122)
def uRe2 (S : Nat → Int) (n lf : Int) (D : Nat → Nat → Int) (y : Int × Int × Int) : Int × Int × Int × (Nat → Nat → Int) := uRe3 S n lf D y (uD S n y.2.1 y.2.2 0 7)
def uRe (S : Nat → Int) (n a g lf : Int) (D : Nat → Nat → Int) : Int × Int × Int × (Nat → Nat → Int) := uRe2 S n lf D (uY S n a g 3)
def uDi5 (S : Nat → Int) (n lf : Int) (D : Nat → Nat → Int) (h f t : Int × Int × Int) : Int × Int × Int × (Nat → Nat → Int) := uFin t.2.1 (uEnd S n t.2.1 t.2.2) lf D (aDie D h.1 f.1 t.1)
def uDi4 (S : Nat → Int) (n lf : Int) (D : Nat → Nat → Int) (h f : Int × Int × Int) (e : Int × Int) : Int × Int × Int × (Nat → Nat → Int) := uDi5 S n lf D h f (uY S n e.1 e.2 3)
def uDi3 (S : Nat → Int) (n lf : Int) (D : Nat → Nat → Int) (h f : Int × Int × Int) : Int × Int × Int × (Nat → Nat → Int) := uDi4 S n lf D h f (uE f.2.1 f.2.2 (decide (uH S n f.2.1 = 45)))
def uDi2 (S : Nat → Int) (n lf : Int) (D : Nat → Nat → Int) (h : Int × Int × Int) : Int × Int × Int × (Nat → Nat → Int) := uDi3 S n lf D h (uY S n h.2.1 h.2.2 3)
def uDi (S : Nat → Int) (n a g lf : Int) (D : Nat → Nat → Int) : Int × Int × Int × (Nat → Nat → Int) := uDi2 S n lf D (uD S n a g 0 5)
def uCr3 (S : Nat → Int) (n lf : Int) (D : Nat → Nat → Int) (d y : Int × Int × Int) : Int × Int × Int × (Nat → Nat → Int) := uFin y.2.1 (uEnd S n y.2.1 y.2.2) lf D (aCrack D d.1 y.1)
def uCr2 (S : Nat → Int) (n lf : Int) (D : Nat → Nat → Int) (d : Int × Int × Int) : Int × Int × Int × (Nat → Nat → Int) := uCr3 S n lf D d (uY S n d.2.1 d.2.2 3)
def uCr (S : Nat → Int) (n a g lf : Int) (D : Nat → Nat → Int) : Int × Int × Int × (Nat → Nat → Int) := uCr2 S n lf D (uD S n a g 0 9)
def uCo (S : Nat → Int) (n a g : Int) : Int × Int × Int := if uH S n a = 46 then (-1, uE a g true) else uD S n a g 0 7
def uSe6 (lf : Int) (D : Nat → Nat → Int) (m : Int) (d q b1 b2 : Int × Int × Int) (u : Int × Int × Int × Int) : Int × Int × Int × (Nat → Nat → Int) := uFin u.2.2.1 u.2.2.2 lf D (aSeal D d.1 m q.1 (10 * b1.1 + b2.1) u.1)
def uSe5 (S : Nat → Int) (n lf : Int) (D : Nat → Nat → Int) (m : Int) (d q b1 b2 : Int × Int × Int) : Int × Int × Int × (Nat → Nat → Int) := uSe6 lf D m d q b1 b2 (uAs S n 3 (0, 0, b2.2.1, b2.2.2) 122)
def uSe4 (S : Nat → Int) (n lf : Int) (D : Nat → Nat → Int) (m : Int) (d q b1 : Int × Int × Int) : Int × Int × Int × (Nat → Nat → Int) := uSe5 S n lf D m d q b1 (uD S n b1.2.1 b1.2.2 0 9)
def uSe3 (S : Nat → Int) (n lf : Int) (D : Nat → Nat → Int) (m : Int) (d q : Int × Int × Int) : Int × Int × Int × (Nat → Nat → Int) := uSe4 S n lf D m d q (uD S n q.2.1 q.2.2 0 9)
def uSe2 (S : Nat → Int) (n lf : Int) (D : Nat → Nat → Int) (m : Int) (d : Int × Int × Int) : Int × Int × Int × (Nat → Nat → Int) := uSe3 S n lf D m d (uCo S n d.2.1 d.2.2)
def uSe (S : Nat → Int) (n a g lf : Int) (D : Nat → Nat → Int) (m : Int) : Int × Int × Int × (Nat → Nat → Int) := uSe2 S n lf D m (uD S n a g 0 9)
def uHa4 (S : Nat → Int) (n lf : Int) (D : Nat → Nat → Int) (t s c : Int × Int × Int) : Int × Int × Int × (Nat → Nat → Int) := uFin c.2.1 (uEnd S n c.2.1 c.2.2) lf D (aHang D (10 * t.1 + s.1) c.1)
def uHa3 (S : Nat → Int) (n lf : Int) (D : Nat → Nat → Int) (t s : Int × Int × Int) : Int × Int × Int × (Nat → Nat → Int) := uHa4 S n lf D t s (uD S n s.2.1 s.2.2 0 5)
def uHa2 (S : Nat → Int) (n lf : Int) (D : Nat → Nat → Int) (t : Int × Int × Int) : Int × Int × Int × (Nat → Nat → Int) := uHa3 S n lf D t (uD S n t.2.1 t.2.2 0 (if t.1 = 2 then 3 else 9))
def uHa (S : Nat → Int) (n a g lf : Int) (D : Nat → Nat → Int) : Int × Int × Int × (Nat → Nat → Int) := uHa2 S n lf D (uD S n a g 0 2)
theorem zor_p {a b : Int} (ha : 0 < a) (hb : 0 ≤ b) : 1 ≤ zor a b := by
  unfold zor
  have : a.toNat ≤ a.toNat ||| b.toNat := Nat.left_le_or
  omega
theorem zor_8 {k : Nat} {b : Int} (hk : k < 8) (hb : 0 ≤ b ∧ b < 256) : 1 ≤ zor ((2 : Int) ^ k) b ∧ zor ((2 : Int) ^ k) b ≤ 255 := by
  have h1 := pow_8 hk
  have h2 := zor_b (a := (2 : Int) ^ k) (b := b) ⟨by omega, by omega⟩ hb
  have h3 := zor_p (a := (2 : Int) ^ k) (b := b) h1.1 hb.1
  omega

theorem cd_X10_readReign : cd yX10_readReign 0 := by decide +kernel
theorem in_X10_readReign_X10 : ∀ w ∈ wsX100, w ∈ wsX10_readReign := by decide +kernel
set_option maxHeartbeats 4000000 in
set_option maxRecDepth 100000 in
theorem c_X10_readReign (l : Launch) (g : va_G) (τ : Nat → ClassId) (ma : Nat → Nat) (M : Nat → Int) (S : Nat → Int) (hSB : SB S) (hPI : PI (M 9) (M 10) (M 11)) (D : Nat → Nat → Int) (hI : SI D)  : Met l yX10_readReign wsX10_readReign { frames := 3, cells := 0, slots := 0, locals := 73 } (va_Pc [Value.ref (ma 0)] (rwW g τ ([moO ma M, arC (ma 8) (τ 0) 120 S, arC (ma 3) (τ 0) 291 (flR D)]))) (rwQ g (fun v w => ∃ r : Int × Int × Int × (Nat → Nat → Int), r = uRe S (M 9) (M 10) (M 11) (M 12) D ∧ v = none ∧ w = [moO ma (updZ (updZ (updZ M 10 r.1) 11 r.2.1) 12 r.2.2.1), arC (ma 8) (τ 0) 120 S, arC (ma 3) (τ 0) 291 (flR r.2.2.2)]) (inW ([moO ma M, arC (ma 8) (τ 0) 120 S, arC (ma 3) (τ 0) 291 (flR D)]))) 0 0 (inW ([moO ma M, arC (ma 8) (τ 0) 120 S, arC (ma 3) (τ 0) 291 (flR D)])) := by
  obtain ⟨hpi1, hpi2, hpi3, hpi4, hpi5⟩ := id hPI
  have hD0 := hI.d
  have hR0 := hI.r
  have hS0 := hI.s
  refine rwMet (cc := cX10_readReign) (maxL := 4) (ret := none) (lv := [(0, Value.ref (ma 0))]) (by decide) rfl (Nat.le_of_ble_eq_true rfl) rfl ?_
  intro p e s m below meth c hx hb hr hml hts hown hlocks A H hP hD hS hK ls hl
  refine lv_aload_n hx hb dX10_readReign_0 rfl (lv_at hl 0 rfl) ?_
  refine rw_V (As := []) (rest := []) ⟨hx, hb, hml, hown, hts⟩ (c_X10_readYear l g τ ma M S hSB (by show PI (M 9) (M 10) (M 11); exact ⟨by omega, by omega, by omega, by omega, by omega⟩)) gX10_readReign_X10_readYear cd_X10_readYear rfl rfl ⟨rfl, rfl⟩ ⟨Nat.le_of_ble_eq_true rfl, Nat.le_of_ble_eq_true rfl⟩ hK hP hD hS [0, 1] (rfl) (by decide) 0 rfl rfl rfl rfl hl rfl (Nat.le_of_ble_eq_true rfl) dX10_readReign_1 ⟨Nat.le_of_ble_eq_true rfl, Nat.le_of_ble_eq_true rfl⟩ (fun v w h => by obtain ⟨x9, -, -, rfl⟩ := h; rfl) (fun v w1 H locs hZ hP hD hS => ?_)
  obtain ⟨y_1, hey_1, rfl, rfl⟩ := hZ
  have hP : va_P g vwCl ([moO ma (updZ (updZ M 10 y_1.2.1) 11 y_1.2.2), arC (ma 8) (τ 0) 120 S, arC (ma 3) (τ 0) 291 (flR D)]) H := hP
  have hD : va_D A ([moO ma (updZ (updZ M 10 y_1.2.1) 11 y_1.2.2), arC (ma 8) (τ 0) 120 S, arC (ma 3) (τ 0) 291 (flR D)]) := hD
  have hey_1 : y_1 = uY S (M 9) (M 10) (M 11) 3 := hey_1
  have hmy_1 := uY_3 S (M 9) (M 10) (M 11)
  have hoy_1 := uY_ok (S := S) (show PI (M 9) (M 10) (M 11) from ⟨by omega, by omega, by omega, by omega, by omega⟩) 3
  rw [← hey_1] at hmy_1 hoy_1
  obtain ⟨hoy_11, hoy_12, hoy_13, hoy_14, hoy_15⟩ := hoy_1
  refine tl_some ?_
  refine lv_istore_n (lv' := [(1, Value.int (iI y_1.1)), (0, Value.ref (ma 0))]) hx hb dX10_readReign_4 rfl hl (by decide) rfl (fun ls hl => ?_)
  refine lv_aload_n hx hb dX10_readReign_5 rfl (lv_at hl 1 rfl) ?_
  refine lv_iconst (v := iI 0) hx hb dX10_readReign_6 (by decide) ?_
  refine lv_bipush (v := iI 7) hx hb dX10_readReign_7 (by decide) ?_
  refine rw_V (As := [Value.int (iI 0), Value.int (iI 7)]) (rest := []) ⟨hx, hb, hml, hown, hts⟩ (c_X10_digit l g τ ma (updZ (updZ M 10 y_1.2.1) 11 y_1.2.2) S hSB (by show PI (M 9) y_1.2.1 y_1.2.2; exact ⟨by omega, by omega, by omega, by omega, by omega⟩) 0 7 (by omega) (by omega)) gX10_readReign_X10_digit cd_X10_digit rfl rfl ⟨rfl, rfl⟩ ⟨Nat.le_of_ble_eq_true rfl, Nat.le_of_ble_eq_true rfl⟩ hK hP hD hS [0, 1] (rfl) (by decide) 0 rfl rfl rfl rfl hl rfl (Nat.le_of_ble_eq_true rfl) dX10_readReign_9 ⟨Nat.le_of_ble_eq_true rfl, Nat.le_of_ble_eq_true rfl⟩ (fun v w h => by obtain ⟨x9, -, -, rfl⟩ := h; rfl) (fun v w1 H locs hZ hP hD hS => ?_)
  obtain ⟨d_2, hed_2, rfl, rfl⟩ := hZ
  have hP : va_P g vwCl ([moO ma (updZ (updZ M 10 d_2.2.1) 11 d_2.2.2), arC (ma 8) (τ 0) 120 S, arC (ma 3) (τ 0) 291 (flR D)]) H := hP
  have hD : va_D A ([moO ma (updZ (updZ M 10 d_2.2.1) 11 d_2.2.2), arC (ma 8) (τ 0) 120 S, arC (ma 3) (τ 0) 291 (flR D)]) := hD
  have hed_2 : d_2 = uD S (M 9) y_1.2.1 y_1.2.2 0 7 := hed_2
  have hmd_2 := uD_m S (M 9) y_1.2.1 y_1.2.2 0 7
  have hod_2 := uD_ok (S := S) (show PI (M 9) y_1.2.1 y_1.2.2 from ⟨by omega, by omega, by omega, by omega, by omega⟩) (show 0 ≤ 0 by omega) 7
  rw [← hed_2] at hmd_2 hod_2
  obtain ⟨hod_21, hod_22, hod_23, hod_24, hod_25⟩ := hod_2
  refine tl_some ?_
  refine lv_istore_n (lv' := [(2, Value.int (iI d_2.1)), (1, Value.int (iI y_1.1)), (0, Value.ref (ma 0))]) hx hb dX10_readReign_12 rfl hl (by decide) rfl (fun ls hl => ?_)
  refine lv_iconst (v := iI 1) hx hb dX10_readReign_13 (by decide) ?_
  refine lv_iload_n hx hb dX10_readReign_14 rfl (lv_at hl 0 rfl) ?_
  refine zi_shl1 ((d_2.1).toNat) (by omega) (by omega) hx hb dX10_readReign_15 ?_
  refine lv_aload_n hx hb dX10_readReign_16 rfl (lv_at hl 2 rfl) ?_
  refine lv_iload_n hx hb dX10_readReign_17 rfl (lv_at hl 0 rfl) ?_
  refine lv_iconst (v := iI 1) hx hb dX10_readReign_18 (by decide) ?_
  refine zi_add hx hb dX10_readReign_19 ?_
  refine lv_bipush (v := iI 7) hx hb dX10_readReign_20 (by decide) ?_
  refine rw_V (As := [Value.int (iI (d_2.1 + 1)), Value.int (iI 7)]) (rest := [Value.int (iI ((2 : Int) ^ ((d_2.1).toNat)))]) ⟨hx, hb, hml, hown, hts⟩ (c_X10_ascending l g τ ma (updZ (updZ M 10 d_2.2.1) 11 d_2.2.2) S hSB (by show PI (M 9) d_2.2.1 d_2.2.2; exact ⟨by omega, by omega, by omega, by omega, by omega⟩) (d_2.1 + 1) 7 (by omega) ⟨by omega, by omega, by show ¬ d_2.2.2 = 0 → _; omega⟩) gX10_readReign_X10_ascending cd_X10_ascending rfl rfl ⟨rfl, rfl⟩ ⟨Nat.le_of_ble_eq_true rfl, Nat.le_of_ble_eq_true rfl⟩ hK hP hD hS [0, 1] (rfl) (by decide) 0 rfl rfl rfl rfl hl rfl (Nat.le_of_ble_eq_true rfl) dX10_readReign_22 ⟨Nat.le_of_ble_eq_true rfl, Nat.le_of_ble_eq_true rfl⟩ (fun v w h => by obtain ⟨x9, -, -, rfl⟩ := h; rfl) (fun v w1 H locs hZ hP hD hS => ?_)
  obtain ⟨u_3, heu_3, rfl, rfl⟩ := hZ
  have hP : va_P g vwCl ([moO ma (updZ (updZ M 10 u_3.2.2.1) 11 u_3.2.2.2), arC (ma 8) (τ 0) 120 S, arC (ma 3) (τ 0) 291 (flR D)]) H := hP
  have hD : va_D A ([moO ma (updZ (updZ M 10 u_3.2.2.1) 11 u_3.2.2.2), arC (ma 8) (τ 0) 120 S, arC (ma 3) (τ 0) 291 (flR D)]) := hD
  have heu_3 : u_3 = uAs S (M 9) 7 (0, d_2.1 + 1, d_2.2.1, d_2.2.2) 122 := heu_3
  have hou_3 := uAs_ok (S := S) (n := (M 9)) (hi := 7) ⟨by omega, by omega⟩ (s0 := (0, d_2.1 + 1, d_2.2.1, d_2.2.2)) (uOK_i (by omega) (by omega) (by omega) ⟨by omega, by omega, by omega, by omega, by omega⟩) 122
  have hmu_3 := uAs_m (S := S) (n := (M 9)) (hi := 7) (s0 := (0, d_2.1 + 1, d_2.2.1, d_2.2.2)) 122
  rw [← heu_3] at hmu_3 hou_3
  have hmu_3 : ¬ u_3.2.2.2 = 0 → ¬ d_2.2.2 = 0 := hmu_3
  obtain ⟨⟨hou_31, hou_32⟩, hou_33, hou_34, hou_35, hou_36, hou_37, hou_38, hou_39, hou_310⟩ := hou_3
  refine tl_some ?_
  have hp8 := pow_8 (k := (d_2.1).toNat) (by omega)
  refine zi_or hx hb ⟨by omega, by omega⟩ dX10_readReign_25 ?_
  refine lv_istore_n (lv' := [(3, Value.int (iI (zor ((2 : Int) ^ ((d_2.1).toNat)) u_3.1))), (2, Value.int (iI d_2.1)), (1, Value.int (iI y_1.1)), (0, Value.ref (ma 0))]) hx hb dX10_readReign_26 rfl hl (by decide) rfl (fun ls hl => ?_)
  refine lv_aload_n hx hb dX10_readReign_27 rfl (lv_at hl 3 rfl) ?_
  refine lv_aload_n hx hb dX10_readReign_28 rfl (lv_at hl 3 rfl) ?_
  refine va_get (D := g) (ci := 10) (v := Value.ref (ma 3)) (C := RX10) (T := TX10) (N := 18) hx hb hts in_X10_readReign_X10 hown hK.1 hP 0 (rfl) rfl 3 (by decide) (hts _ (List.mem_of_getElem? (i := 1) rfl) : (Cond.fieldLink RX10 16 "CordSealsModel" "read" "[I").before _ s = true) (fun _ h9 => h9) rfl dX10_readReign_29 ?_
  refine lv_iload_n hx hb dX10_readReign_32 rfl (lv_at hl 2 rfl) ?_
  refine ro_S (As := [Value.ref (ma 3), Value.int (iI y_1.1)]) (rest := [Value.ref (ma 0)]) (v := some (Value.int (iI (zB (decide (D 1 0 < 10 ∧ (D 1 0 = 0 ∨ D 2 ((D 1 0).toNat - 1) < y_1.1))))))) ⟨hx, hb, hml, hown, hts⟩ (c_X10_canReign l g τ (ma 3) D hI y_1.1 ⟨by omega, by omega⟩) gX10_readReign_X10_canReign cd_X10_canReign rfl ⟨rfl, rfl⟩ ⟨Nat.le_of_ble_eq_true rfl, Nat.le_of_ble_eq_true rfl⟩ hK (cut_P (is := [2]) hP rfl) rfl hl rfl (Nat.le_of_ble_eq_true rfl) dX10_readReign_33 ⟨Nat.le_of_ble_eq_true rfl, Nat.le_of_ble_eq_true rfl⟩ ?_
  refine tl_some ?_
  refine rw_V (As := [Value.int (iI (zB (decide (D 1 0 < 10 ∧ (D 1 0 = 0 ∨ D 2 ((D 1 0).toNat - 1) < y_1.1)))))]) (rest := []) ⟨hx, hb, hml, hown, hts⟩ (c_X10_goes l g τ ma (updZ (updZ M 10 u_3.2.2.1) 11 u_3.2.2.2) (decide (D 1 0 < 10 ∧ (D 1 0 = 0 ∨ D 2 ((D 1 0).toNat - 1) < y_1.1))) (by show 0 ≤ u_3.2.2.2 ∧ u_3.2.2.2 ≤ 1; omega)) gX10_readReign_X10_goes cd_X10_goes rfl rfl ⟨rfl, rfl⟩ ⟨Nat.le_of_ble_eq_true rfl, Nat.le_of_ble_eq_true rfl⟩ hK hP hD hS [0] (rfl) (by decide) 0 rfl rfl rfl rfl hl rfl (Nat.le_of_ble_eq_true rfl) dX10_readReign_36 ⟨Nat.le_of_ble_eq_true rfl, Nat.le_of_ble_eq_true rfl⟩ (fun v w h => by rw [h.2]; rfl) (fun v w1 H locs hZ hP hD hS => ?_)
  obtain ⟨rfl, rfl⟩ := hZ
  have hP : va_P g vwCl ([moO ma (updZ (updZ (updZ M 10 u_3.2.2.1) 11 u_3.2.2.2) 12 (M 12 + (if ¬ u_3.2.2.2 = 0 ∧ (decide (D 1 0 < 10 ∧ (D 1 0 = 0 ∨ D 2 ((D 1 0).toNat - 1) < y_1.1))) = false then 1 else 0))), arC (ma 8) (τ 0) 120 S, arC (ma 3) (τ 0) 291 (flR D)]) H := hP
  have hD : va_D A ([moO ma (updZ (updZ (updZ M 10 u_3.2.2.1) 11 u_3.2.2.2) 12 (M 12 + (if ¬ u_3.2.2.2 = 0 ∧ (decide (D 1 0 < 10 ∧ (D 1 0 = 0 ∨ D 2 ((D 1 0).toNat - 1) < y_1.1))) = false then 1 else 0))), arC (ma 8) (τ 0) 120 S, arC (ma 3) (τ 0) 291 (flR D)]) := hD
  refine tl_some ?_
  refine zb_if_eq (tgt := 52) hx hb dX10_readReign_39 (by decide) (fun c_4 => ?_) (fun c_4 => ?_)
  · have _ := c_4
    exact rw_vret hx hb hr hlocks hP hS (by exact ⟨(u_3.2.2.1, u_3.2.2.2, M 12 + (if ¬ u_3.2.2.2 = 0 ∧ (decide (D 1 0 < 10 ∧ (D 1 0 = 0 ∨ D 2 ((D 1 0).toNat - 1) < y_1.1))) = false then 1 else 0), D), (by rw [uRe, ← hey_1, uRe2, ← hed_2, uRe3, ← heu_3, uRe4]; exact uFin_f (b := (decide (D 1 0 < 10 ∧ (D 1 0 = 0 ∨ D 2 ((D 1 0).toNat - 1) < y_1.1)))) c_4 (fun hg hb9 => by first | exact absurd hb9 (by decide) | (rw [show aReign D y_1.1 (zor ((2 : Int) ^ d_2.1.toNat) u_3.1) = (-4, D) from (by (have hcr2 := of_decide_eq_false hb9); (have hz8 := zor_8 (k := d_2.1.toNat) (b := u_3.1) (by omega) ⟨by omega, by omega⟩); unfold aReign; rw [if_neg (by unfold isY; omega), if_pos ((kB_p hR0.1).mpr (by omega))])]; exact ⟨by show (-4 : Int) < 0; decide, rfl⟩))), rfl, rfl⟩) dX10_readReign_52
  · have _ := c_4
    have hcr2 := of_decide_eq_true (of_decide_eq_true c_4).2
    have hz8 := zor_8 (k := (d_2.1).toNat) (b := u_3.1) (by omega) ⟨by omega, by omega⟩
    refine lv_aload_n hx hb dX10_readReign_42 rfl (lv_at hl 3 rfl) ?_
    refine va_get (D := g) (ci := 10) (v := Value.ref (ma 3)) (C := RX10) (T := TX10) (N := 18) hx hb hts in_X10_readReign_X10 hown hK.1 hP 0 (rfl) rfl 3 (by decide) (hts _ (List.mem_of_getElem? (i := 1) rfl) : (Cond.fieldLink RX10 16 "CordSealsModel" "read" "[I").before _ s = true) (fun _ h9 => h9) rfl dX10_readReign_43 ?_
    refine lv_iload_n hx hb dX10_readReign_46 rfl (lv_at hl 2 rfl) ?_
    refine lv_iload_n hx hb dX10_readReign_47 rfl (lv_at hl 0 rfl) ?_
    refine rw_S (As := [Value.ref (ma 3), Value.int (iI y_1.1), Value.int (iI (zor ((2 : Int) ^ ((d_2.1).toNat)) u_3.1))]) (rest := []) ⟨hx, hb, hml, hown, hts⟩ (c_X10_goReign l g τ (ma 3) D hI y_1.1 ⟨by omega, by omega⟩ (zor ((2 : Int) ^ ((d_2.1).toNat)) u_3.1) ⟨by omega, by omega⟩ (by omega)) gX10_readReign_X10_goReign cd_X10_goReign rfl ⟨rfl, rfl⟩ ⟨Nat.le_of_ble_eq_true rfl, Nat.le_of_ble_eq_true rfl⟩ hK hP hD hS [2] (rfl) (by decide) rfl hl rfl (Nat.le_of_ble_eq_true rfl) dX10_readReign_48 ⟨Nat.le_of_ble_eq_true rfl, Nat.le_of_ble_eq_true rfl⟩ (fun v w h => by rw [h.2]; exact f_fl _ _ _ _) (fun v w1 H locs hZ hP hD hS => ?_)
    obtain ⟨rfl, rfl⟩ := hZ
    have hP : va_P g vwCl ([moO ma (updZ (updZ (updZ M 10 u_3.2.2.1) 11 u_3.2.2.2) 12 (M 12 + (if ¬ u_3.2.2.2 = 0 ∧ (decide (D 1 0 < 10 ∧ (D 1 0 = 0 ∨ D 2 ((D 1 0).toNat - 1) < y_1.1))) = false then 1 else 0))), arC (ma 8) (τ 0) 120 S, arC (ma 3) (τ 0) 291 (flR (u2 (u2 (u2 D 2 (updZ (D 2) (D 1 0).toNat y_1.1)) 3 (updZ (D 3) (D 1 0).toNat (zor ((2 : Int) ^ ((d_2.1).toNat)) u_3.1))) 1 (fun _ => D 1 0 + 1)))]) H := hP
    have hD : va_D A ([moO ma (updZ (updZ (updZ M 10 u_3.2.2.1) 11 u_3.2.2.2) 12 (M 12 + (if ¬ u_3.2.2.2 = 0 ∧ (decide (D 1 0 < 10 ∧ (D 1 0 = 0 ∨ D 2 ((D 1 0).toNat - 1) < y_1.1))) = false then 1 else 0))), arC (ma 8) (τ 0) 120 S, arC (ma 3) (τ 0) 291 (flR (u2 (u2 (u2 D 2 (updZ (D 2) (D 1 0).toNat y_1.1)) 3 (updZ (D 3) (D 1 0).toNat (zor ((2 : Int) ^ ((d_2.1).toNat)) u_3.1))) 1 (fun _ => D 1 0 + 1)))]) := hD
    refine tl_some ?_
    refine lv_pop hx hb dX10_readReign_51 rfl ?_
    exact rw_vret hx hb hr hlocks hP hS (by exact ⟨(u_3.2.2.1, u_3.2.2.2, M 12 + (if ¬ u_3.2.2.2 = 0 ∧ (decide (D 1 0 < 10 ∧ (D 1 0 = 0 ∨ D 2 ((D 1 0).toNat - 1) < y_1.1))) = false then 1 else 0), u2 (u2 (u2 D 2 (updZ (D 2) (D 1 0).toNat y_1.1)) 3 (updZ (D 3) (D 1 0).toNat (zor ((2 : Int) ^ ((d_2.1).toNat)) u_3.1))) 1 (fun _ => D 1 0 + 1)), (by rw [uRe, ← hey_1, uRe2, ← hed_2, uRe3, ← heu_3, uRe4, show aReign D y_1.1 (zor ((2 : Int) ^ d_2.1.toNat) u_3.1) = (D 1 0, u2 (u2 (u2 D 2 (updZ (D 2) (D 1 0).toNat y_1.1)) 3 (updZ (D 3) (D 1 0).toNat (zor ((2 : Int) ^ d_2.1.toNat) u_3.1))) 1 (fun _ => D 1 0 + 1)) from (by (have hgg : ¬ u_3.2.2.2 = 0 := (of_decide_eq_true c_4).1); (have hcr2 := of_decide_eq_true (of_decide_eq_true c_4).2); (have hz8 := zor_8 (k := d_2.1.toNat) (b := u_3.1) (by omega) ⟨by omega, by omega⟩); unfold aReign; rw [if_neg (by unfold isY; omega), if_neg (fun z => absurd ((kB_p hR0.1).mp z) (by omega))])]; exact uFin_t (b := (decide (D 1 0 < 10 ∧ (D 1 0 = 0 ∨ D 2 ((D 1 0).toNat - 1) < y_1.1)))) (r := (D 1 0, u2 (u2 (u2 D 2 (updZ (D 2) (D 1 0).toNat y_1.1)) 3 (updZ (D 3) (D 1 0).toNat (zor ((2 : Int) ^ d_2.1.toNat) u_3.1))) 1 (fun _ => D 1 0 + 1))) c_4 (by show (0 : Int) ≤ D 1 0; omega)), rfl, rfl⟩) dX10_readReign_52

theorem cd_X10_readDie : cd yX10_readDie 0 := by decide +kernel
theorem in_X10_readDie_X10 : ∀ w ∈ wsX100, w ∈ wsX10_readDie := by decide +kernel
set_option maxHeartbeats 4000000 in
set_option maxRecDepth 100000 in
theorem c_X10_readDie (l : Launch) (g : va_G) (τ : Nat → ClassId) (ma : Nat → Nat) (M : Nat → Int) (S : Nat → Int) (hSB : SB S) (hPI : PI (M 9) (M 10) (M 11)) (D : Nat → Nat → Int) (hI : SI D)  : Met l yX10_readDie wsX10_readDie { frames := 3, cells := 0, slots := 0, locals := 70 } (va_Pc [Value.ref (ma 0)] (rwW g τ ([moO ma M, arC (ma 8) (τ 0) 120 S, arC (ma 3) (τ 0) 291 (flR D)]))) (rwQ g (fun v w => ∃ r : Int × Int × Int × (Nat → Nat → Int), r = uDi S (M 9) (M 10) (M 11) (M 12) D ∧ v = none ∧ w = [moO ma (updZ (updZ (updZ M 10 r.1) 11 r.2.1) 12 r.2.2.1), arC (ma 8) (τ 0) 120 S, arC (ma 3) (τ 0) 291 (flR r.2.2.2)]) (inW ([moO ma M, arC (ma 8) (τ 0) 120 S, arC (ma 3) (τ 0) 291 (flR D)]))) 0 0 (inW ([moO ma M, arC (ma 8) (τ 0) 120 S, arC (ma 3) (τ 0) 291 (flR D)])) := by
  obtain ⟨hpi1, hpi2, hpi3, hpi4, hpi5⟩ := id hPI
  have hD0 := hI.d
  have hR0 := hI.r
  have hS0 := hI.s
  refine rwMet (cc := cX10_readDie) (maxL := 4) (ret := none) (lv := [(0, Value.ref (ma 0))]) (by decide) rfl (Nat.le_of_ble_eq_true rfl) rfl ?_
  intro p e s m below meth c hx hb hr hml hts hown hlocks A H hP hD hS hK ls hl
  refine lv_aload_n hx hb dX10_readDie_0 rfl (lv_at hl 0 rfl) ?_
  refine lv_iconst (v := iI 0) hx hb dX10_readDie_1 (by decide) ?_
  refine lv_iconst (v := iI 5) hx hb dX10_readDie_2 (by decide) ?_
  refine rw_V (As := [Value.int (iI 0), Value.int (iI 5)]) (rest := []) ⟨hx, hb, hml, hown, hts⟩ (c_X10_digit l g τ ma M S hSB (by show PI (M 9) (M 10) (M 11); exact ⟨by omega, by omega, by omega, by omega, by omega⟩) 0 5 (by omega) (by omega)) gX10_readDie_X10_digit cd_X10_digit rfl rfl ⟨rfl, rfl⟩ ⟨Nat.le_of_ble_eq_true rfl, Nat.le_of_ble_eq_true rfl⟩ hK hP hD hS [0, 1] (rfl) (by decide) 0 rfl rfl rfl rfl hl rfl (Nat.le_of_ble_eq_true rfl) dX10_readDie_3 ⟨Nat.le_of_ble_eq_true rfl, Nat.le_of_ble_eq_true rfl⟩ (fun v w h => by obtain ⟨x9, -, -, rfl⟩ := h; rfl) (fun v w1 H locs hZ hP hD hS => ?_)
  obtain ⟨d_1, hed_1, rfl, rfl⟩ := hZ
  have hP : va_P g vwCl ([moO ma (updZ (updZ M 10 d_1.2.1) 11 d_1.2.2), arC (ma 8) (τ 0) 120 S, arC (ma 3) (τ 0) 291 (flR D)]) H := hP
  have hD : va_D A ([moO ma (updZ (updZ M 10 d_1.2.1) 11 d_1.2.2), arC (ma 8) (τ 0) 120 S, arC (ma 3) (τ 0) 291 (flR D)]) := hD
  have hed_1 : d_1 = uD S (M 9) (M 10) (M 11) 0 5 := hed_1
  have hmd_1 := uD_m S (M 9) (M 10) (M 11) 0 5
  have hod_1 := uD_ok (S := S) (show PI (M 9) (M 10) (M 11) from ⟨by omega, by omega, by omega, by omega, by omega⟩) (show 0 ≤ 0 by omega) 5
  rw [← hed_1] at hmd_1 hod_1
  obtain ⟨hod_11, hod_12, hod_13, hod_14, hod_15⟩ := hod_1
  refine tl_some ?_
  refine lv_istore_n (lv' := [(1, Value.int (iI d_1.1)), (0, Value.ref (ma 0))]) hx hb dX10_readDie_6 rfl hl (by decide) rfl (fun ls hl => ?_)
  refine lv_aload_n hx hb dX10_readDie_7 rfl (lv_at hl 1 rfl) ?_
  refine rw_V (As := []) (rest := []) ⟨hx, hb, hml, hown, hts⟩ (c_X10_readYear l g τ ma (updZ (updZ M 10 d_1.2.1) 11 d_1.2.2) S hSB (by show PI (M 9) d_1.2.1 d_1.2.2; exact ⟨by omega, by omega, by omega, by omega, by omega⟩)) gX10_readDie_X10_readYear cd_X10_readYear rfl rfl ⟨rfl, rfl⟩ ⟨Nat.le_of_ble_eq_true rfl, Nat.le_of_ble_eq_true rfl⟩ hK hP hD hS [0, 1] (rfl) (by decide) 0 rfl rfl rfl rfl hl rfl (Nat.le_of_ble_eq_true rfl) dX10_readDie_8 ⟨Nat.le_of_ble_eq_true rfl, Nat.le_of_ble_eq_true rfl⟩ (fun v w h => by obtain ⟨x9, -, -, rfl⟩ := h; rfl) (fun v w1 H locs hZ hP hD hS => ?_)
  obtain ⟨y_2, hey_2, rfl, rfl⟩ := hZ
  have hP : va_P g vwCl ([moO ma (updZ (updZ M 10 y_2.2.1) 11 y_2.2.2), arC (ma 8) (τ 0) 120 S, arC (ma 3) (τ 0) 291 (flR D)]) H := hP
  have hD : va_D A ([moO ma (updZ (updZ M 10 y_2.2.1) 11 y_2.2.2), arC (ma 8) (τ 0) 120 S, arC (ma 3) (τ 0) 291 (flR D)]) := hD
  have hey_2 : y_2 = uY S (M 9) d_1.2.1 d_1.2.2 3 := hey_2
  have hmy_2 := uY_3 S (M 9) d_1.2.1 d_1.2.2
  have hoy_2 := uY_ok (S := S) (show PI (M 9) d_1.2.1 d_1.2.2 from ⟨by omega, by omega, by omega, by omega, by omega⟩) 3
  rw [← hey_2] at hmy_2 hoy_2
  obtain ⟨hoy_21, hoy_22, hoy_23, hoy_24, hoy_25⟩ := hoy_2
  refine tl_some ?_
  refine lv_istore_n (lv' := [(2, Value.int (iI y_2.1)), (1, Value.int (iI d_1.1)), (0, Value.ref (ma 0))]) hx hb dX10_readDie_11 rfl hl (by decide) rfl (fun ls hl => ?_)
  refine lv_aload_n hx hb dX10_readDie_12 rfl (lv_at hl 2 rfl) ?_
  refine jn (F0 m 27 ls (Value.int (iI (zB (decide (uH S (M 9) y_2.2.1 = 45)))) :: Value.ref (ma 0) :: [])) ?_ (fun K => ?_)
  · skip
    refine rw_V (As := [Value.int (iI (zB (decide (uH S (M 9) y_2.2.1 = 45))))]) (rest := []) ⟨hx, hb, hml, hown, hts⟩ (c_X10_eat l g τ ma (updZ (updZ M 10 y_2.2.1) 11 y_2.2.2) (decide (uH S (M 9) y_2.2.1 = 45)) (by show 0 ≤ y_2.2.2 ∧ y_2.2.2 ≤ 1; omega)) gX10_readDie_X10_eat cd_X10_eat rfl rfl ⟨rfl, rfl⟩ ⟨Nat.le_of_ble_eq_true rfl, Nat.le_of_ble_eq_true rfl⟩ hK hP hD hS [0] (rfl) (by decide) 0 rfl rfl rfl rfl hl rfl (Nat.le_of_ble_eq_true rfl) dX10_readDie_27 ⟨Nat.le_of_ble_eq_true rfl, Nat.le_of_ble_eq_true rfl⟩ (fun v w h => by obtain ⟨x9, -, -, rfl⟩ := h; rfl) (fun v w1 H locs hZ hP hD hS => ?_)
    obtain ⟨x_3, hex_3, rfl, rfl⟩ := hZ
    have hP : va_P g vwCl ([moO ma (updZ (updZ M 10 x_3.1) 11 x_3.2), arC (ma 8) (τ 0) 120 S, arC (ma 3) (τ 0) 291 (flR D)]) H := hP
    have hD : va_D A ([moO ma (updZ (updZ M 10 x_3.1) 11 x_3.2), arC (ma 8) (τ 0) 120 S, arC (ma 3) (τ 0) 291 (flR D)]) := hD
    have hex_3 : x_3 = uE y_2.2.1 y_2.2.2 (decide (uH S (M 9) y_2.2.1 = 45)) := hex_3
    have hmx_3 := uE_m y_2.2.1 y_2.2.2 (decide (uH S (M 9) y_2.2.1 = 45))
    rw [← hex_3] at hmx_3
    have hwx_3 := uE_ok (show PI (M 9) y_2.2.1 y_2.2.2 from ⟨by omega, by omega, by omega, by omega, by omega⟩) (b := (decide (uH S (M 9) y_2.2.1 = 45))) (fun q => uH_n (S := S) (by have := of_decide_eq_true q; omega))
    rw [← hex_3] at hwx_3
    obtain ⟨hwx_31, hwx_32, hwx_33, hwx_34, hwx_35⟩ := hwx_3
    refine tl_none ?_
    refine lv_aload_n hx hb dX10_readDie_30 rfl (lv_at hl 2 rfl) ?_
    refine rw_V (As := []) (rest := []) ⟨hx, hb, hml, hown, hts⟩ (c_X10_readYear l g τ ma (updZ (updZ M 10 x_3.1) 11 x_3.2) S hSB (by show PI (M 9) x_3.1 x_3.2; exact ⟨by omega, by omega, by omega, by omega, by omega⟩)) gX10_readDie_X10_readYear cd_X10_readYear rfl rfl ⟨rfl, rfl⟩ ⟨Nat.le_of_ble_eq_true rfl, Nat.le_of_ble_eq_true rfl⟩ hK hP hD hS [0, 1] (rfl) (by decide) 0 rfl rfl rfl rfl hl rfl (Nat.le_of_ble_eq_true rfl) dX10_readDie_31 ⟨Nat.le_of_ble_eq_true rfl, Nat.le_of_ble_eq_true rfl⟩ (fun v w h => by obtain ⟨x9, -, -, rfl⟩ := h; rfl) (fun v w1 H locs hZ hP hD hS => ?_)
    obtain ⟨y_4, hey_4, rfl, rfl⟩ := hZ
    have hP : va_P g vwCl ([moO ma (updZ (updZ M 10 y_4.2.1) 11 y_4.2.2), arC (ma 8) (τ 0) 120 S, arC (ma 3) (τ 0) 291 (flR D)]) H := hP
    have hD : va_D A ([moO ma (updZ (updZ M 10 y_4.2.1) 11 y_4.2.2), arC (ma 8) (τ 0) 120 S, arC (ma 3) (τ 0) 291 (flR D)]) := hD
    have hey_4 : y_4 = uY S (M 9) x_3.1 x_3.2 3 := hey_4
    have hmy_4 := uY_3 S (M 9) x_3.1 x_3.2
    have hoy_4 := uY_ok (S := S) (show PI (M 9) x_3.1 x_3.2 from ⟨by omega, by omega, by omega, by omega, by omega⟩) 3
    rw [← hey_4] at hmy_4 hoy_4
    obtain ⟨hoy_41, hoy_42, hoy_43, hoy_44, hoy_45⟩ := hoy_4
    refine tl_some ?_
    refine lv_istore_n (lv' := [(3, Value.int (iI y_4.1)), (2, Value.int (iI y_2.1)), (1, Value.int (iI d_1.1)), (0, Value.ref (ma 0))]) hx hb dX10_readDie_34 rfl hl (by decide) rfl (fun ls hl => ?_)
    refine lv_aload_n hx hb dX10_readDie_35 rfl (lv_at hl 3 rfl) ?_
    refine rw_V (As := []) (rest := []) ⟨hx, hb, hml, hown, hts⟩ (c_X10_end l g τ ma (updZ (updZ M 10 y_4.2.1) 11 y_4.2.2) S hSB (by show PI (M 9) y_4.2.1 y_4.2.2; exact ⟨by omega, by omega, by omega, by omega, by omega⟩)) gX10_readDie_X10_end cd_X10_end rfl rfl ⟨rfl, rfl⟩ ⟨Nat.le_of_ble_eq_true rfl, Nat.le_of_ble_eq_true rfl⟩ hK hP hD hS [0, 1] (rfl) (by decide) 0 rfl rfl rfl rfl hl rfl (Nat.le_of_ble_eq_true rfl) dX10_readDie_36 ⟨Nat.le_of_ble_eq_true rfl, Nat.le_of_ble_eq_true rfl⟩ (fun v w h => by rw [h.2]; rfl) (fun v w1 H locs hZ hP hD hS => ?_)
    obtain ⟨rfl, rfl⟩ := hZ
    have hP : va_P g vwCl ([moO ma (updZ (updZ M 10 y_4.2.1) 11 (uEnd S (M 9) y_4.2.1 y_4.2.2)), arC (ma 8) (τ 0) 120 S, arC (ma 3) (τ 0) 291 (flR D)]) H := hP
    have hD : va_D A ([moO ma (updZ (updZ M 10 y_4.2.1) 11 (uEnd S (M 9) y_4.2.1 y_4.2.2)), arC (ma 8) (τ 0) 120 S, arC (ma 3) (τ 0) 291 (flR D)]) := hD
    have hen := uEnd_m S (M 9) y_4.2.1 y_4.2.2
    refine tl_none ?_
    refine lv_aload_n hx hb dX10_readDie_39 rfl (lv_at hl 3 rfl) ?_
    refine lv_iload_n hx hb dX10_readDie_40 rfl (lv_at hl 0 rfl) ?_
    refine lv_iload_n hx hb dX10_readDie_41 rfl (lv_at hl 1 rfl) ?_
    refine zi_icmp_lt (tgt := 60) hx hb ⟨by omega, by omega⟩ ⟨by omega, by omega⟩ dX10_readDie_42 (by decide) (fun c_5 => ?_) (fun c_5 => ?_)
    · have _ := c_5
      refine lv_iconst (v := iI 0) hx hb dX10_readDie_60 (by decide) ?_
      refine rw_V (As := [Value.int (iI 0)]) (rest := []) ⟨hx, hb, hml, hown, hts⟩ (c_X10_goes l g τ ma (updZ (updZ M 10 y_4.2.1) 11 (uEnd S (M 9) y_4.2.1 y_4.2.2)) false (by show 0 ≤ uEnd S (M 9) y_4.2.1 y_4.2.2 ∧ uEnd S (M 9) y_4.2.1 y_4.2.2 ≤ 1; omega)) gX10_readDie_X10_goes cd_X10_goes rfl rfl ⟨rfl, rfl⟩ ⟨Nat.le_of_ble_eq_true rfl, Nat.le_of_ble_eq_true rfl⟩ hK hP hD hS [0] (rfl) (by decide) 0 rfl rfl rfl rfl hl rfl (Nat.le_of_ble_eq_true rfl) dX10_readDie_61 ⟨Nat.le_of_ble_eq_true rfl, Nat.le_of_ble_eq_true rfl⟩ (fun v w h => by rw [h.2]; rfl) (fun v w1 H locs hZ hP hD hS => ?_)
      obtain ⟨rfl, rfl⟩ := hZ
      have hP : va_P g vwCl ([moO ma (updZ (updZ (updZ M 10 y_4.2.1) 11 (uEnd S (M 9) y_4.2.1 y_4.2.2)) 12 (M 12 + (if ¬ uEnd S (M 9) y_4.2.1 y_4.2.2 = 0 ∧ false = false then 1 else 0))), arC (ma 8) (τ 0) 120 S, arC (ma 3) (τ 0) 291 (flR D)]) H := hP
      have hD : va_D A ([moO ma (updZ (updZ (updZ M 10 y_4.2.1) 11 (uEnd S (M 9) y_4.2.1 y_4.2.2)) 12 (M 12 + (if ¬ uEnd S (M 9) y_4.2.1 y_4.2.2 = 0 ∧ false = false then 1 else 0))), arC (ma 8) (τ 0) 120 S, arC (ma 3) (τ 0) 291 (flR D)]) := hD
      refine tl_some ?_
      refine zb_if_eq (tgt := 78) hx hb dX10_readDie_64 (by decide) (fun c_6 => ?_) (fun c_6 => ?_)
      · have _ := c_6
        exact rw_vret hx hb hr hlocks hP hS (by exact ⟨(y_4.2.1, uEnd S (M 9) y_4.2.1 y_4.2.2, M 12 + (if ¬ uEnd S (M 9) y_4.2.1 y_4.2.2 = 0 ∧ false = false then 1 else 0), D), (by rw [uDi, ← hed_1, uDi2, ← hey_2, uDi3, ← hex_3, uDi4, ← hey_4, uDi5]; exact uFin_f (b := false) c_6 (fun hg hb9 => by first | exact absurd hb9 (by decide) | (rw [show aDie D d_1.1 y_2.1 y_4.1 = (-3, D) from (by unfold aDie; rw [if_pos (by unfold isY; omega)])]; exact ⟨by show (-3 : Int) < 0; decide, rfl⟩) | (rw [show aDie D d_1.1 y_2.1 y_4.1 = (-4, D) from (by unfold aDie; rw [if_neg (by unfold isY; omega), if_pos (by omega)])]; exact ⟨by show (-4 : Int) < 0; decide, rfl⟩))), rfl, rfl⟩) dX10_readDie_78
      · exact absurd (of_decide_eq_true c_6).2 (by decide)
    · have _ := c_5
      refine lv_aload_n hx hb dX10_readDie_45 rfl (lv_at hl 3 rfl) ?_
      refine va_get (D := g) (ci := 10) (v := Value.ref (ma 3)) (C := RX10) (T := TX10) (N := 18) hx hb hts in_X10_readDie_X10 hown hK.1 hP 0 (rfl) rfl 3 (by decide) (hts _ (List.mem_of_getElem? (i := 1) rfl) : (Cond.fieldLink RX10 16 "CordSealsModel" "read" "[I").before _ s = true) (fun _ h9 => h9) rfl dX10_readDie_46 ?_
      refine lv_iconst (v := iI 1) hx hb dX10_readDie_49 (by decide) ?_
      refine zf_ald hx hb hK hP 2 (f := flR D) rfl (1) (rfl) (by omega) (by decide) (z := D 4 0) (fl_4) dX10_readDie_50 ?_
      refine lv_bipush (v := iI 10) hx hb dX10_readDie_51 (by decide) ?_
      refine zi_icmp_ge (tgt := 60) hx hb ⟨by omega, by omega⟩ ⟨by decide, by decide⟩ dX10_readDie_53 (by decide) (fun c_7 => ?_) (fun c_7 => ?_)
      · have _ := c_7
        refine lv_iconst (v := iI 0) hx hb dX10_readDie_60 (by decide) ?_
        refine rw_V (As := [Value.int (iI 0)]) (rest := []) ⟨hx, hb, hml, hown, hts⟩ (c_X10_goes l g τ ma (updZ (updZ M 10 y_4.2.1) 11 (uEnd S (M 9) y_4.2.1 y_4.2.2)) false (by show 0 ≤ uEnd S (M 9) y_4.2.1 y_4.2.2 ∧ uEnd S (M 9) y_4.2.1 y_4.2.2 ≤ 1; omega)) gX10_readDie_X10_goes cd_X10_goes rfl rfl ⟨rfl, rfl⟩ ⟨Nat.le_of_ble_eq_true rfl, Nat.le_of_ble_eq_true rfl⟩ hK hP hD hS [0] (rfl) (by decide) 0 rfl rfl rfl rfl hl rfl (Nat.le_of_ble_eq_true rfl) dX10_readDie_61 ⟨Nat.le_of_ble_eq_true rfl, Nat.le_of_ble_eq_true rfl⟩ (fun v w h => by rw [h.2]; rfl) (fun v w1 H locs hZ hP hD hS => ?_)
        obtain ⟨rfl, rfl⟩ := hZ
        have hP : va_P g vwCl ([moO ma (updZ (updZ (updZ M 10 y_4.2.1) 11 (uEnd S (M 9) y_4.2.1 y_4.2.2)) 12 (M 12 + (if ¬ uEnd S (M 9) y_4.2.1 y_4.2.2 = 0 ∧ false = false then 1 else 0))), arC (ma 8) (τ 0) 120 S, arC (ma 3) (τ 0) 291 (flR D)]) H := hP
        have hD : va_D A ([moO ma (updZ (updZ (updZ M 10 y_4.2.1) 11 (uEnd S (M 9) y_4.2.1 y_4.2.2)) 12 (M 12 + (if ¬ uEnd S (M 9) y_4.2.1 y_4.2.2 = 0 ∧ false = false then 1 else 0))), arC (ma 8) (τ 0) 120 S, arC (ma 3) (τ 0) 291 (flR D)]) := hD
        refine tl_some ?_
        refine zb_if_eq (tgt := 78) hx hb dX10_readDie_64 (by decide) (fun c_8 => ?_) (fun c_8 => ?_)
        · have _ := c_8
          exact rw_vret hx hb hr hlocks hP hS (by exact ⟨(y_4.2.1, uEnd S (M 9) y_4.2.1 y_4.2.2, M 12 + (if ¬ uEnd S (M 9) y_4.2.1 y_4.2.2 = 0 ∧ false = false then 1 else 0), D), (by rw [uDi, ← hed_1, uDi2, ← hey_2, uDi3, ← hex_3, uDi4, ← hey_4, uDi5]; exact uFin_f (b := false) c_8 (fun hg hb9 => by first | exact absurd hb9 (by decide) | (rw [show aDie D d_1.1 y_2.1 y_4.1 = (-3, D) from (by unfold aDie; rw [if_pos (by unfold isY; omega)])]; exact ⟨by show (-3 : Int) < 0; decide, rfl⟩) | (rw [show aDie D d_1.1 y_2.1 y_4.1 = (-4, D) from (by unfold aDie; rw [if_neg (by unfold isY; omega), if_pos (by omega)])]; exact ⟨by show (-4 : Int) < 0; decide, rfl⟩))), rfl, rfl⟩) dX10_readDie_78
        · exact absurd (of_decide_eq_true c_8).2 (by decide)
      · have _ := c_7
        refine lv_iconst (v := iI 1) hx hb dX10_readDie_56 (by decide) ?_
        refine lv_goto (tgt := 61) hx hb dX10_readDie_57 (by decide) ?_
        refine rw_V (As := [Value.int (iI 1)]) (rest := []) ⟨hx, hb, hml, hown, hts⟩ (c_X10_goes l g τ ma (updZ (updZ M 10 y_4.2.1) 11 (uEnd S (M 9) y_4.2.1 y_4.2.2)) true (by show 0 ≤ uEnd S (M 9) y_4.2.1 y_4.2.2 ∧ uEnd S (M 9) y_4.2.1 y_4.2.2 ≤ 1; omega)) gX10_readDie_X10_goes cd_X10_goes rfl rfl ⟨rfl, rfl⟩ ⟨Nat.le_of_ble_eq_true rfl, Nat.le_of_ble_eq_true rfl⟩ hK hP hD hS [0] (rfl) (by decide) 0 rfl rfl rfl rfl hl rfl (Nat.le_of_ble_eq_true rfl) dX10_readDie_61 ⟨Nat.le_of_ble_eq_true rfl, Nat.le_of_ble_eq_true rfl⟩ (fun v w h => by rw [h.2]; rfl) (fun v w1 H locs hZ hP hD hS => ?_)
        obtain ⟨rfl, rfl⟩ := hZ
        have hP : va_P g vwCl ([moO ma (updZ (updZ (updZ M 10 y_4.2.1) 11 (uEnd S (M 9) y_4.2.1 y_4.2.2)) 12 (M 12 + (if ¬ uEnd S (M 9) y_4.2.1 y_4.2.2 = 0 ∧ true = false then 1 else 0))), arC (ma 8) (τ 0) 120 S, arC (ma 3) (τ 0) 291 (flR D)]) H := hP
        have hD : va_D A ([moO ma (updZ (updZ (updZ M 10 y_4.2.1) 11 (uEnd S (M 9) y_4.2.1 y_4.2.2)) 12 (M 12 + (if ¬ uEnd S (M 9) y_4.2.1 y_4.2.2 = 0 ∧ true = false then 1 else 0))), arC (ma 8) (τ 0) 120 S, arC (ma 3) (τ 0) 291 (flR D)]) := hD
        refine tl_some ?_
        refine zb_if_eq (tgt := 78) hx hb dX10_readDie_64 (by decide) (fun c_9 => ?_) (fun c_9 => ?_)
        · have _ := c_9
          exact rw_vret hx hb hr hlocks hP hS (by exact ⟨(y_4.2.1, uEnd S (M 9) y_4.2.1 y_4.2.2, M 12 + (if ¬ uEnd S (M 9) y_4.2.1 y_4.2.2 = 0 ∧ true = false then 1 else 0), D), (by rw [uDi, ← hed_1, uDi2, ← hey_2, uDi3, ← hex_3, uDi4, ← hey_4, uDi5]; exact uFin_f (b := true) c_9 (fun hg hb9 => by first | exact absurd hb9 (by decide) | (rw [show aDie D d_1.1 y_2.1 y_4.1 = (-3, D) from (by unfold aDie; rw [if_pos (by unfold isY; omega)])]; exact ⟨by show (-3 : Int) < 0; decide, rfl⟩) | (rw [show aDie D d_1.1 y_2.1 y_4.1 = (-4, D) from (by unfold aDie; rw [if_neg (by unfold isY; omega), if_pos (by omega)])]; exact ⟨by show (-4 : Int) < 0; decide, rfl⟩))), rfl, rfl⟩) dX10_readDie_78
        · have _ := c_9
          refine lv_aload_n hx hb dX10_readDie_67 rfl (lv_at hl 3 rfl) ?_
          refine va_get (D := g) (ci := 10) (v := Value.ref (ma 3)) (C := RX10) (T := TX10) (N := 18) hx hb hts in_X10_readDie_X10 hown hK.1 hP 0 (rfl) rfl 3 (by decide) (hts _ (List.mem_of_getElem? (i := 1) rfl) : (Cond.fieldLink RX10 16 "CordSealsModel" "read" "[I").before _ s = true) (fun _ h9 => h9) rfl dX10_readDie_68 ?_
          refine lv_iload_n hx hb dX10_readDie_71 rfl (lv_at hl 2 rfl) ?_
          refine lv_iload_n hx hb dX10_readDie_72 rfl (lv_at hl 1 rfl) ?_
          refine lv_iload_n hx hb dX10_readDie_73 rfl (lv_at hl 0 rfl) ?_
          refine rw_S (As := [Value.ref (ma 3), Value.int (iI d_1.1), Value.int (iI y_2.1), Value.int (iI y_4.1)]) (rest := []) ⟨hx, hb, hml, hown, hts⟩ (c_X10_goDie l g τ (ma 3) D hI d_1.1 ⟨by omega, by omega⟩ y_2.1 ⟨by omega, by omega⟩ y_4.1 ⟨by omega, by omega⟩ (by omega)) gX10_readDie_X10_goDie cd_X10_goDie rfl ⟨rfl, rfl⟩ ⟨Nat.le_of_ble_eq_true rfl, Nat.le_of_ble_eq_true rfl⟩ hK hP hD hS [2] (rfl) (by decide) rfl hl rfl (Nat.le_of_ble_eq_true rfl) dX10_readDie_74 ⟨Nat.le_of_ble_eq_true rfl, Nat.le_of_ble_eq_true rfl⟩ (fun v w h => by rw [h.2]; exact f_fl _ _ _ _) (fun v w1 H locs hZ hP hD hS => ?_)
          obtain ⟨rfl, rfl⟩ := hZ
          have hP : va_P g vwCl ([moO ma (updZ (updZ (updZ M 10 y_4.2.1) 11 (uEnd S (M 9) y_4.2.1 y_4.2.2)) 12 (M 12 + (if ¬ uEnd S (M 9) y_4.2.1 y_4.2.2 = 0 ∧ true = false then 1 else 0))), arC (ma 8) (τ 0) 120 S, arC (ma 3) (τ 0) 291 (flR (u2 (u2 (u2 (u2 (u2 D 5 (updZ (D 5) (D 4 0).toNat d_1.1)) 6 (updZ (D 6) (D 4 0).toNat y_2.1)) 7 (updZ (D 7) (D 4 0).toNat y_4.1)) 8 (updZ (D 8) (D 4 0).toNat 0)) 4 (fun _ => D 4 0 + 1)))]) H := hP
          have hD : va_D A ([moO ma (updZ (updZ (updZ M 10 y_4.2.1) 11 (uEnd S (M 9) y_4.2.1 y_4.2.2)) 12 (M 12 + (if ¬ uEnd S (M 9) y_4.2.1 y_4.2.2 = 0 ∧ true = false then 1 else 0))), arC (ma 8) (τ 0) 120 S, arC (ma 3) (τ 0) 291 (flR (u2 (u2 (u2 (u2 (u2 D 5 (updZ (D 5) (D 4 0).toNat d_1.1)) 6 (updZ (D 6) (D 4 0).toNat y_2.1)) 7 (updZ (D 7) (D 4 0).toNat y_4.1)) 8 (updZ (D 8) (D 4 0).toNat 0)) 4 (fun _ => D 4 0 + 1)))]) := hD
          refine tl_some ?_
          refine lv_pop hx hb dX10_readDie_77 rfl ?_
          exact rw_vret hx hb hr hlocks hP hS (by exact ⟨(y_4.2.1, uEnd S (M 9) y_4.2.1 y_4.2.2, M 12 + (if ¬ uEnd S (M 9) y_4.2.1 y_4.2.2 = 0 ∧ true = false then 1 else 0), u2 (u2 (u2 (u2 (u2 D 5 (updZ (D 5) (D 4 0).toNat d_1.1)) 6 (updZ (D 6) (D 4 0).toNat y_2.1)) 7 (updZ (D 7) (D 4 0).toNat y_4.1)) 8 (updZ (D 8) (D 4 0).toNat 0)) 4 (fun _ => D 4 0 + 1)), (by rw [uDi, ← hed_1, uDi2, ← hey_2, uDi3, ← hex_3, uDi4, ← hey_4, uDi5, show aDie D d_1.1 y_2.1 y_4.1 = (D 4 0, u2 (u2 (u2 (u2 (u2 D 5 (updZ (D 5) (D 4 0).toNat d_1.1)) 6 (updZ (D 6) (D 4 0).toNat y_2.1)) 7 (updZ (D 7) (D 4 0).toNat y_4.1)) 8 (updZ (D 8) (D 4 0).toNat 0)) 4 (fun _ => D 4 0 + 1)) from (by (have hgg : ¬ uEnd S (M 9) y_4.2.1 y_4.2.2 = 0 := (of_decide_eq_true c_9).1); unfold aDie; rw [if_neg (by unfold isY; omega), if_neg (by omega)])]; exact uFin_t (b := true) (r := (D 4 0, u2 (u2 (u2 (u2 (u2 D 5 (updZ (D 5) (D 4 0).toNat d_1.1)) 6 (updZ (D 6) (D 4 0).toNat y_2.1)) 7 (updZ (D 7) (D 4 0).toNat y_4.1)) 8 (updZ (D 8) (D 4 0).toNat 0)) 4 (fun _ => D 4 0 + 1))) c_9 (by show (0 : Int) ≤ D 4 0; omega)), rfl, rfl⟩) dX10_readDie_78
  · skip
    refine lv_aload_n hx hb dX10_readDie_13 rfl (lv_at hl 2 rfl) ?_
    refine ro_V (As := []) (rest := [Value.ref (ma 0)]) (v := some (Value.int (iI (uH S (M 9) y_2.2.1)))) ⟨hx, hb, hml, hown, hts⟩ (c_X10_here l g τ ma (updZ (updZ M 10 y_2.2.1) 11 y_2.2.2) S hSB (by show PI (M 9) y_2.2.1 y_2.2.2; exact ⟨by omega, by omega, by omega, by omega, by omega⟩)) gX10_readDie_X10_here cd_X10_here rfl rfl ⟨rfl, rfl⟩ ⟨Nat.le_of_ble_eq_true rfl, Nat.le_of_ble_eq_true rfl⟩ hK (cut_P (is := [0, 1]) hP rfl) 0 rfl rfl rfl rfl hl rfl (Nat.le_of_ble_eq_true rfl) dX10_readDie_14 ⟨Nat.le_of_ble_eq_true rfl, Nat.le_of_ble_eq_true rfl⟩ ?_
    refine tl_some ?_
    have huh := uH_b hSB (M 9) y_2.2.1
    refine lv_bipush (v := iI 45) hx hb dX10_readDie_17 (by decide) ?_
    refine zi_icmp_ne (tgt := 26) hx hb ⟨by omega, by omega⟩ ⟨by decide, by decide⟩ dX10_readDie_19 (by decide) (fun c_10 => ?_) (fun c_10 => ?_)
    · have _ := c_10
      refine lv_iconst (v := iI 0) hx hb dX10_readDie_26 (by decide) ?_
      exact cv_i (congrArg iI (Eq.symm (show (zB (decide (uH S (M 9) y_2.2.1 = 45))) = 0 from by first | (rw [decide_eq_true (by omega)]; rfl) | (rw [decide_eq_false (by omega)]; rfl)))) K
    · have _ := c_10
      refine lv_iconst (v := iI 1) hx hb dX10_readDie_22 (by decide) ?_
      refine lv_goto (tgt := 27) hx hb dX10_readDie_23 (by decide) ?_
      exact cv_i (congrArg iI (Eq.symm (show (zB (decide (uH S (M 9) y_2.2.1 = 45))) = 1 from by first | (rw [decide_eq_true (by omega)]; rfl) | (rw [decide_eq_false (by omega)]; rfl)))) K

theorem cd_X10_readCrack : cd yX10_readCrack 0 := by decide +kernel
theorem in_X10_readCrack_X10 : ∀ w ∈ wsX100, w ∈ wsX10_readCrack := by decide +kernel
set_option maxHeartbeats 4000000 in
set_option maxRecDepth 100000 in
theorem c_X10_readCrack (l : Launch) (g : va_G) (τ : Nat → ClassId) (ma : Nat → Nat) (M : Nat → Int) (S : Nat → Int) (hSB : SB S) (hPI : PI (M 9) (M 10) (M 11)) (D : Nat → Nat → Int) (hI : SI D)  : Met l yX10_readCrack wsX10_readCrack { frames := 3, cells := 0, slots := 0, locals := 70 } (va_Pc [Value.ref (ma 0)] (rwW g τ ([moO ma M, arC (ma 8) (τ 0) 120 S, arC (ma 3) (τ 0) 291 (flR D)]))) (rwQ g (fun v w => ∃ r : Int × Int × Int × (Nat → Nat → Int), r = uCr S (M 9) (M 10) (M 11) (M 12) D ∧ v = none ∧ w = [moO ma (updZ (updZ (updZ M 10 r.1) 11 r.2.1) 12 r.2.2.1), arC (ma 8) (τ 0) 120 S, arC (ma 3) (τ 0) 291 (flR r.2.2.2)]) (inW ([moO ma M, arC (ma 8) (τ 0) 120 S, arC (ma 3) (τ 0) 291 (flR D)]))) 0 0 (inW ([moO ma M, arC (ma 8) (τ 0) 120 S, arC (ma 3) (τ 0) 291 (flR D)])) := by
  obtain ⟨hpi1, hpi2, hpi3, hpi4, hpi5⟩ := id hPI
  have hD0 := hI.d
  have hR0 := hI.r
  have hS0 := hI.s
  refine rwMet (cc := cX10_readCrack) (maxL := 3) (ret := none) (lv := [(0, Value.ref (ma 0))]) (by decide) rfl (Nat.le_of_ble_eq_true rfl) rfl ?_
  intro p e s m below meth c hx hb hr hml hts hown hlocks A H hP hD hS hK ls hl
  refine lv_aload_n hx hb dX10_readCrack_0 rfl (lv_at hl 0 rfl) ?_
  refine lv_iconst (v := iI 0) hx hb dX10_readCrack_1 (by decide) ?_
  refine lv_bipush (v := iI 9) hx hb dX10_readCrack_2 (by decide) ?_
  refine rw_V (As := [Value.int (iI 0), Value.int (iI 9)]) (rest := []) ⟨hx, hb, hml, hown, hts⟩ (c_X10_digit l g τ ma M S hSB (by show PI (M 9) (M 10) (M 11); exact ⟨by omega, by omega, by omega, by omega, by omega⟩) 0 9 (by omega) (by omega)) gX10_readCrack_X10_digit cd_X10_digit rfl rfl ⟨rfl, rfl⟩ ⟨Nat.le_of_ble_eq_true rfl, Nat.le_of_ble_eq_true rfl⟩ hK hP hD hS [0, 1] (rfl) (by decide) 0 rfl rfl rfl rfl hl rfl (Nat.le_of_ble_eq_true rfl) dX10_readCrack_4 ⟨Nat.le_of_ble_eq_true rfl, Nat.le_of_ble_eq_true rfl⟩ (fun v w h => by obtain ⟨x9, -, -, rfl⟩ := h; rfl) (fun v w1 H locs hZ hP hD hS => ?_)
  obtain ⟨d_1, hed_1, rfl, rfl⟩ := hZ
  have hP : va_P g vwCl ([moO ma (updZ (updZ M 10 d_1.2.1) 11 d_1.2.2), arC (ma 8) (τ 0) 120 S, arC (ma 3) (τ 0) 291 (flR D)]) H := hP
  have hD : va_D A ([moO ma (updZ (updZ M 10 d_1.2.1) 11 d_1.2.2), arC (ma 8) (τ 0) 120 S, arC (ma 3) (τ 0) 291 (flR D)]) := hD
  have hed_1 : d_1 = uD S (M 9) (M 10) (M 11) 0 9 := hed_1
  have hmd_1 := uD_m S (M 9) (M 10) (M 11) 0 9
  have hod_1 := uD_ok (S := S) (show PI (M 9) (M 10) (M 11) from ⟨by omega, by omega, by omega, by omega, by omega⟩) (show 0 ≤ 0 by omega) 9
  rw [← hed_1] at hmd_1 hod_1
  obtain ⟨hod_11, hod_12, hod_13, hod_14, hod_15⟩ := hod_1
  refine tl_some ?_
  refine lv_istore_n (lv' := [(1, Value.int (iI d_1.1)), (0, Value.ref (ma 0))]) hx hb dX10_readCrack_7 rfl hl (by decide) rfl (fun ls hl => ?_)
  refine lv_aload_n hx hb dX10_readCrack_8 rfl (lv_at hl 1 rfl) ?_
  refine rw_V (As := []) (rest := []) ⟨hx, hb, hml, hown, hts⟩ (c_X10_readYear l g τ ma (updZ (updZ M 10 d_1.2.1) 11 d_1.2.2) S hSB (by show PI (M 9) d_1.2.1 d_1.2.2; exact ⟨by omega, by omega, by omega, by omega, by omega⟩)) gX10_readCrack_X10_readYear cd_X10_readYear rfl rfl ⟨rfl, rfl⟩ ⟨Nat.le_of_ble_eq_true rfl, Nat.le_of_ble_eq_true rfl⟩ hK hP hD hS [0, 1] (rfl) (by decide) 0 rfl rfl rfl rfl hl rfl (Nat.le_of_ble_eq_true rfl) dX10_readCrack_9 ⟨Nat.le_of_ble_eq_true rfl, Nat.le_of_ble_eq_true rfl⟩ (fun v w h => by obtain ⟨x9, -, -, rfl⟩ := h; rfl) (fun v w1 H locs hZ hP hD hS => ?_)
  obtain ⟨y_2, hey_2, rfl, rfl⟩ := hZ
  have hP : va_P g vwCl ([moO ma (updZ (updZ M 10 y_2.2.1) 11 y_2.2.2), arC (ma 8) (τ 0) 120 S, arC (ma 3) (τ 0) 291 (flR D)]) H := hP
  have hD : va_D A ([moO ma (updZ (updZ M 10 y_2.2.1) 11 y_2.2.2), arC (ma 8) (τ 0) 120 S, arC (ma 3) (τ 0) 291 (flR D)]) := hD
  have hey_2 : y_2 = uY S (M 9) d_1.2.1 d_1.2.2 3 := hey_2
  have hmy_2 := uY_3 S (M 9) d_1.2.1 d_1.2.2
  have hoy_2 := uY_ok (S := S) (show PI (M 9) d_1.2.1 d_1.2.2 from ⟨by omega, by omega, by omega, by omega, by omega⟩) 3
  rw [← hey_2] at hmy_2 hoy_2
  obtain ⟨hoy_21, hoy_22, hoy_23, hoy_24, hoy_25⟩ := hoy_2
  refine tl_some ?_
  refine lv_istore_n (lv' := [(2, Value.int (iI y_2.1)), (1, Value.int (iI d_1.1)), (0, Value.ref (ma 0))]) hx hb dX10_readCrack_12 rfl hl (by decide) rfl (fun ls hl => ?_)
  refine lv_aload_n hx hb dX10_readCrack_13 rfl (lv_at hl 2 rfl) ?_
  refine rw_V (As := []) (rest := []) ⟨hx, hb, hml, hown, hts⟩ (c_X10_end l g τ ma (updZ (updZ M 10 y_2.2.1) 11 y_2.2.2) S hSB (by show PI (M 9) y_2.2.1 y_2.2.2; exact ⟨by omega, by omega, by omega, by omega, by omega⟩)) gX10_readCrack_X10_end cd_X10_end rfl rfl ⟨rfl, rfl⟩ ⟨Nat.le_of_ble_eq_true rfl, Nat.le_of_ble_eq_true rfl⟩ hK hP hD hS [0, 1] (rfl) (by decide) 0 rfl rfl rfl rfl hl rfl (Nat.le_of_ble_eq_true rfl) dX10_readCrack_14 ⟨Nat.le_of_ble_eq_true rfl, Nat.le_of_ble_eq_true rfl⟩ (fun v w h => by rw [h.2]; rfl) (fun v w1 H locs hZ hP hD hS => ?_)
  obtain ⟨rfl, rfl⟩ := hZ
  have hP : va_P g vwCl ([moO ma (updZ (updZ M 10 y_2.2.1) 11 (uEnd S (M 9) y_2.2.1 y_2.2.2)), arC (ma 8) (τ 0) 120 S, arC (ma 3) (τ 0) 291 (flR D)]) H := hP
  have hD : va_D A ([moO ma (updZ (updZ M 10 y_2.2.1) 11 (uEnd S (M 9) y_2.2.1 y_2.2.2)), arC (ma 8) (τ 0) 120 S, arC (ma 3) (τ 0) 291 (flR D)]) := hD
  have hen := uEnd_m S (M 9) y_2.2.1 y_2.2.2
  refine tl_none ?_
  refine lv_aload_n hx hb dX10_readCrack_17 rfl (lv_at hl 2 rfl) ?_
  refine lv_aload_n hx hb dX10_readCrack_18 rfl (lv_at hl 2 rfl) ?_
  refine va_get (D := g) (ci := 10) (v := Value.ref (ma 3)) (C := RX10) (T := TX10) (N := 18) hx hb hts in_X10_readCrack_X10 hown hK.1 hP 0 (rfl) rfl 3 (by decide) (hts _ (List.mem_of_getElem? (i := 1) rfl) : (Cond.fieldLink RX10 16 "CordSealsModel" "read" "[I").before _ s = true) (fun _ h9 => h9) rfl dX10_readCrack_19 ?_
  refine lv_iload_n hx hb dX10_readCrack_22 rfl (lv_at hl 1 rfl) ?_
  refine ro_S (As := [Value.ref (ma 3), Value.int (iI d_1.1)]) (rest := [Value.ref (ma 0)]) (v := some (Value.int (iI (zB (decide (0 ≤ d_1.1 ∧ d_1.1 ≤ D 4 0 - 1)))))) ⟨hx, hb, hml, hown, hts⟩ (c_X10_hasDie l g τ (ma 3) D hI d_1.1 ⟨by omega, by omega⟩) gX10_readCrack_X10_hasDie cd_X10_hasDie rfl ⟨rfl, rfl⟩ ⟨Nat.le_of_ble_eq_true rfl, Nat.le_of_ble_eq_true rfl⟩ hK (cut_P (is := [2]) hP rfl) rfl hl rfl (Nat.le_of_ble_eq_true rfl) dX10_readCrack_23 ⟨Nat.le_of_ble_eq_true rfl, Nat.le_of_ble_eq_true rfl⟩ ?_
  refine tl_some ?_
  refine zb_if_eq (tgt := 45) hx hb dX10_readCrack_26 (by decide) (fun c_3 => ?_) (fun c_3 => ?_)
  · have cd_c_3 := of_decide_eq_false c_3
    refine lv_iconst (v := iI 0) hx hb dX10_readCrack_45 (by decide) ?_
    refine rw_V (As := [Value.int (iI 0)]) (rest := []) ⟨hx, hb, hml, hown, hts⟩ (c_X10_goes l g τ ma (updZ (updZ M 10 y_2.2.1) 11 (uEnd S (M 9) y_2.2.1 y_2.2.2)) false (by show 0 ≤ uEnd S (M 9) y_2.2.1 y_2.2.2 ∧ uEnd S (M 9) y_2.2.1 y_2.2.2 ≤ 1; omega)) gX10_readCrack_X10_goes cd_X10_goes rfl rfl ⟨rfl, rfl⟩ ⟨Nat.le_of_ble_eq_true rfl, Nat.le_of_ble_eq_true rfl⟩ hK hP hD hS [0] (rfl) (by decide) 0 rfl rfl rfl rfl hl rfl (Nat.le_of_ble_eq_true rfl) dX10_readCrack_46 ⟨Nat.le_of_ble_eq_true rfl, Nat.le_of_ble_eq_true rfl⟩ (fun v w h => by rw [h.2]; rfl) (fun v w1 H locs hZ hP hD hS => ?_)
    obtain ⟨rfl, rfl⟩ := hZ
    have hP : va_P g vwCl ([moO ma (updZ (updZ (updZ M 10 y_2.2.1) 11 (uEnd S (M 9) y_2.2.1 y_2.2.2)) 12 (M 12 + (if ¬ uEnd S (M 9) y_2.2.1 y_2.2.2 = 0 ∧ false = false then 1 else 0))), arC (ma 8) (τ 0) 120 S, arC (ma 3) (τ 0) 291 (flR D)]) H := hP
    have hD : va_D A ([moO ma (updZ (updZ (updZ M 10 y_2.2.1) 11 (uEnd S (M 9) y_2.2.1 y_2.2.2)) 12 (M 12 + (if ¬ uEnd S (M 9) y_2.2.1 y_2.2.2 = 0 ∧ false = false then 1 else 0))), arC (ma 8) (τ 0) 120 S, arC (ma 3) (τ 0) 291 (flR D)]) := hD
    refine tl_some ?_
    refine zb_if_eq (tgt := 62) hx hb dX10_readCrack_49 (by decide) (fun c_4 => ?_) (fun c_4 => ?_)
    · have _ := c_4
      exact rw_vret hx hb hr hlocks hP hS (by exact ⟨(y_2.2.1, uEnd S (M 9) y_2.2.1 y_2.2.2, M 12 + (if ¬ uEnd S (M 9) y_2.2.1 y_2.2.2 = 0 ∧ false = false then 1 else 0), D), (by rw [uCr, ← hed_1, uCr2, ← hey_2, uCr3]; exact uFin_f (b := false) c_4 (fun hg hb9 => by first | exact absurd hb9 (by decide) | (rw [show aCrack D d_1.1 y_2.1 = (-2, D) from (by unfold aCrack; rw [if_pos (by omega)])]; exact ⟨by show (-2 : Int) < 0; decide, rfl⟩) | (rw [show aCrack D d_1.1 y_2.1 = (-4, D) from (by unfold aCrack; rw [if_neg (by omega), if_neg (by unfold isY; omega), if_pos hcc])]; exact ⟨by show (-4 : Int) < 0; decide, rfl⟩))), rfl, rfl⟩) dX10_readCrack_62
    · exact absurd (of_decide_eq_true c_4).2 (by decide)
  · have cd_c_3 := of_decide_eq_true c_3
    have hdl := hI.ds (d_1.1).toNat (by omega)
    refine lv_aload_n hx hb dX10_readCrack_29 rfl (lv_at hl 2 rfl) ?_
    refine va_get (D := g) (ci := 10) (v := Value.ref (ma 3)) (C := RX10) (T := TX10) (N := 18) hx hb hts in_X10_readCrack_X10 hown hK.1 hP 0 (rfl) rfl 3 (by decide) (hts _ (List.mem_of_getElem? (i := 1) rfl) : (Cond.fieldLink RX10 16 "CordSealsModel" "read" "[I").before _ s = true) (fun _ h9 => h9) rfl dX10_readCrack_30 ?_
    refine lv_iload_n hx hb dX10_readCrack_33 rfl (lv_at hl 1 rfl) ?_
    refine cv_i (y := iI (((d_1.1).toNat : Nat) : Int)) (congrArg iI (by omega)) ?_
    refine lv_iload_n hx hb dX10_readCrack_34 rfl (lv_at hl 0 rfl) ?_
    refine ro_S (As := [Value.ref (ma 3), Value.int (iI (((d_1.1).toNat : Nat) : Int)), Value.int (iI y_2.1)]) (rest := [Value.ref (ma 0)]) (v := some (Value.int (iI (zB (decide (D 8 ((d_1.1).toNat) < 4) && !dIn D ((d_1.1).toNat) (D 8 ((d_1.1).toNat)).toNat y_2.1))))) ⟨hx, hb, hml, hown, hts⟩ (e_X10_canCrack l g τ (ma 3) D hI ((d_1.1).toNat) (by omega) y_2.1 ⟨by omega, by omega⟩) gX10_readCrack_X10_canCrack cd_X10_canCrack rfl ⟨rfl, rfl⟩ ⟨Nat.le_of_ble_eq_true rfl, Nat.le_of_ble_eq_true rfl⟩ hK (cut_P (is := [2]) hP rfl) rfl hl rfl (Nat.le_of_ble_eq_true rfl) dX10_readCrack_35 ⟨Nat.le_of_ble_eq_true rfl, Nat.le_of_ble_eq_true rfl⟩ ?_
    refine tl_some ?_
    refine zb_if_eq (tgt := 45) hx hb dX10_readCrack_38 (by decide) (fun c_5 => ?_) (fun c_5 => ?_)
    · have _ := c_5
      have hcc := cP_f c_5
      refine lv_iconst (v := iI 0) hx hb dX10_readCrack_45 (by decide) ?_
      refine rw_V (As := [Value.int (iI 0)]) (rest := []) ⟨hx, hb, hml, hown, hts⟩ (c_X10_goes l g τ ma (updZ (updZ M 10 y_2.2.1) 11 (uEnd S (M 9) y_2.2.1 y_2.2.2)) false (by show 0 ≤ uEnd S (M 9) y_2.2.1 y_2.2.2 ∧ uEnd S (M 9) y_2.2.1 y_2.2.2 ≤ 1; omega)) gX10_readCrack_X10_goes cd_X10_goes rfl rfl ⟨rfl, rfl⟩ ⟨Nat.le_of_ble_eq_true rfl, Nat.le_of_ble_eq_true rfl⟩ hK hP hD hS [0] (rfl) (by decide) 0 rfl rfl rfl rfl hl rfl (Nat.le_of_ble_eq_true rfl) dX10_readCrack_46 ⟨Nat.le_of_ble_eq_true rfl, Nat.le_of_ble_eq_true rfl⟩ (fun v w h => by rw [h.2]; rfl) (fun v w1 H locs hZ hP hD hS => ?_)
      obtain ⟨rfl, rfl⟩ := hZ
      have hP : va_P g vwCl ([moO ma (updZ (updZ (updZ M 10 y_2.2.1) 11 (uEnd S (M 9) y_2.2.1 y_2.2.2)) 12 (M 12 + (if ¬ uEnd S (M 9) y_2.2.1 y_2.2.2 = 0 ∧ false = false then 1 else 0))), arC (ma 8) (τ 0) 120 S, arC (ma 3) (τ 0) 291 (flR D)]) H := hP
      have hD : va_D A ([moO ma (updZ (updZ (updZ M 10 y_2.2.1) 11 (uEnd S (M 9) y_2.2.1 y_2.2.2)) 12 (M 12 + (if ¬ uEnd S (M 9) y_2.2.1 y_2.2.2 = 0 ∧ false = false then 1 else 0))), arC (ma 8) (τ 0) 120 S, arC (ma 3) (τ 0) 291 (flR D)]) := hD
      refine tl_some ?_
      refine zb_if_eq (tgt := 62) hx hb dX10_readCrack_49 (by decide) (fun c_6 => ?_) (fun c_6 => ?_)
      · have _ := c_6
        exact rw_vret hx hb hr hlocks hP hS (by exact ⟨(y_2.2.1, uEnd S (M 9) y_2.2.1 y_2.2.2, M 12 + (if ¬ uEnd S (M 9) y_2.2.1 y_2.2.2 = 0 ∧ false = false then 1 else 0), D), (by rw [uCr, ← hed_1, uCr2, ← hey_2, uCr3]; exact uFin_f (b := false) c_6 (fun hg hb9 => by first | exact absurd hb9 (by decide) | (rw [show aCrack D d_1.1 y_2.1 = (-2, D) from (by unfold aCrack; rw [if_pos (by omega)])]; exact ⟨by show (-2 : Int) < 0; decide, rfl⟩) | (rw [show aCrack D d_1.1 y_2.1 = (-4, D) from (by unfold aCrack; rw [if_neg (by omega), if_neg (by unfold isY; omega), if_pos hcc])]; exact ⟨by show (-4 : Int) < 0; decide, rfl⟩))), rfl, rfl⟩) dX10_readCrack_62
      · exact absurd (of_decide_eq_true c_6).2 (by decide)
    · have _ := c_5
      have hcc := cP_t c_5
      refine lv_iconst (v := iI 1) hx hb dX10_readCrack_41 (by decide) ?_
      refine lv_goto (tgt := 46) hx hb dX10_readCrack_42 (by decide) ?_
      refine rw_V (As := [Value.int (iI 1)]) (rest := []) ⟨hx, hb, hml, hown, hts⟩ (c_X10_goes l g τ ma (updZ (updZ M 10 y_2.2.1) 11 (uEnd S (M 9) y_2.2.1 y_2.2.2)) true (by show 0 ≤ uEnd S (M 9) y_2.2.1 y_2.2.2 ∧ uEnd S (M 9) y_2.2.1 y_2.2.2 ≤ 1; omega)) gX10_readCrack_X10_goes cd_X10_goes rfl rfl ⟨rfl, rfl⟩ ⟨Nat.le_of_ble_eq_true rfl, Nat.le_of_ble_eq_true rfl⟩ hK hP hD hS [0] (rfl) (by decide) 0 rfl rfl rfl rfl hl rfl (Nat.le_of_ble_eq_true rfl) dX10_readCrack_46 ⟨Nat.le_of_ble_eq_true rfl, Nat.le_of_ble_eq_true rfl⟩ (fun v w h => by rw [h.2]; rfl) (fun v w1 H locs hZ hP hD hS => ?_)
      obtain ⟨rfl, rfl⟩ := hZ
      have hP : va_P g vwCl ([moO ma (updZ (updZ (updZ M 10 y_2.2.1) 11 (uEnd S (M 9) y_2.2.1 y_2.2.2)) 12 (M 12 + (if ¬ uEnd S (M 9) y_2.2.1 y_2.2.2 = 0 ∧ true = false then 1 else 0))), arC (ma 8) (τ 0) 120 S, arC (ma 3) (τ 0) 291 (flR D)]) H := hP
      have hD : va_D A ([moO ma (updZ (updZ (updZ M 10 y_2.2.1) 11 (uEnd S (M 9) y_2.2.1 y_2.2.2)) 12 (M 12 + (if ¬ uEnd S (M 9) y_2.2.1 y_2.2.2 = 0 ∧ true = false then 1 else 0))), arC (ma 8) (τ 0) 120 S, arC (ma 3) (τ 0) 291 (flR D)]) := hD
      refine tl_some ?_
      refine zb_if_eq (tgt := 62) hx hb dX10_readCrack_49 (by decide) (fun c_7 => ?_) (fun c_7 => ?_)
      · have _ := c_7
        exact rw_vret hx hb hr hlocks hP hS (by exact ⟨(y_2.2.1, uEnd S (M 9) y_2.2.1 y_2.2.2, M 12 + (if ¬ uEnd S (M 9) y_2.2.1 y_2.2.2 = 0 ∧ true = false then 1 else 0), D), (by rw [uCr, ← hed_1, uCr2, ← hey_2, uCr3]; exact uFin_f (b := true) c_7 (fun hg hb9 => by first | exact absurd hb9 (by decide) | (rw [show aCrack D d_1.1 y_2.1 = (-2, D) from (by unfold aCrack; rw [if_pos (by omega)])]; exact ⟨by show (-2 : Int) < 0; decide, rfl⟩) | (rw [show aCrack D d_1.1 y_2.1 = (-4, D) from (by unfold aCrack; rw [if_neg (by omega), if_neg (by unfold isY; omega), if_pos hcc])]; exact ⟨by show (-4 : Int) < 0; decide, rfl⟩))), rfl, rfl⟩) dX10_readCrack_62
      · have _ := c_7
        refine lv_aload_n hx hb dX10_readCrack_52 rfl (lv_at hl 2 rfl) ?_
        refine va_get (D := g) (ci := 10) (v := Value.ref (ma 3)) (C := RX10) (T := TX10) (N := 18) hx hb hts in_X10_readCrack_X10 hown hK.1 hP 0 (rfl) rfl 3 (by decide) (hts _ (List.mem_of_getElem? (i := 1) rfl) : (Cond.fieldLink RX10 16 "CordSealsModel" "read" "[I").before _ s = true) (fun _ h9 => h9) rfl dX10_readCrack_53 ?_
        refine lv_iload_n hx hb dX10_readCrack_56 rfl (lv_at hl 1 rfl) ?_
        refine cv_i (y := iI (((d_1.1).toNat : Nat) : Int)) (congrArg iI (by omega)) ?_
        refine lv_iload_n hx hb dX10_readCrack_57 rfl (lv_at hl 0 rfl) ?_
        refine rw_S (As := [Value.ref (ma 3), Value.int (iI (((d_1.1).toNat : Nat) : Int)), Value.int (iI y_2.1)]) (rest := []) ⟨hx, hb, hml, hown, hts⟩ (c_X10_goCrack l g τ (ma 3) D hI ((d_1.1).toNat) (by omega) y_2.1 ⟨by omega, by omega⟩ (by omega)) gX10_readCrack_X10_goCrack cd_X10_goCrack rfl ⟨rfl, rfl⟩ ⟨Nat.le_of_ble_eq_true rfl, Nat.le_of_ble_eq_true rfl⟩ hK hP hD hS [2] (rfl) (by decide) rfl hl rfl (Nat.le_of_ble_eq_true rfl) dX10_readCrack_58 ⟨Nat.le_of_ble_eq_true rfl, Nat.le_of_ble_eq_true rfl⟩ (fun v w h => by rw [h.2]; exact f_fl _ _ _ _) (fun v w1 H locs hZ hP hD hS => ?_)
        obtain ⟨rfl, rfl⟩ := hZ
        have hP : va_P g vwCl ([moO ma (updZ (updZ (updZ M 10 y_2.2.1) 11 (uEnd S (M 9) y_2.2.1 y_2.2.2)) 12 (M 12 + (if ¬ uEnd S (M 9) y_2.2.1 y_2.2.2 = 0 ∧ true = false then 1 else 0))), arC (ma 8) (τ 0) 120 S, arC (ma 3) (τ 0) 291 (flR (u2 (u2 D 9 (updZ (D 9) (((d_1.1).toNat) * 4 + (D 8 ((d_1.1).toNat)).toNat) y_2.1)) 8 (updZ (D 8) ((d_1.1).toNat) (D 8 ((d_1.1).toNat) + 1))))]) H := hP
        have hD : va_D A ([moO ma (updZ (updZ (updZ M 10 y_2.2.1) 11 (uEnd S (M 9) y_2.2.1 y_2.2.2)) 12 (M 12 + (if ¬ uEnd S (M 9) y_2.2.1 y_2.2.2 = 0 ∧ true = false then 1 else 0))), arC (ma 8) (τ 0) 120 S, arC (ma 3) (τ 0) 291 (flR (u2 (u2 D 9 (updZ (D 9) (((d_1.1).toNat) * 4 + (D 8 ((d_1.1).toNat)).toNat) y_2.1)) 8 (updZ (D 8) ((d_1.1).toNat) (D 8 ((d_1.1).toNat) + 1))))]) := hD
        refine tl_some ?_
        refine lv_pop hx hb dX10_readCrack_61 rfl ?_
        exact rw_vret hx hb hr hlocks hP hS (by exact ⟨(y_2.2.1, uEnd S (M 9) y_2.2.1 y_2.2.2, M 12 + (if ¬ uEnd S (M 9) y_2.2.1 y_2.2.2 = 0 ∧ true = false then 1 else 0), u2 (u2 D 9 (updZ (D 9) (((d_1.1).toNat) * 4 + (D 8 ((d_1.1).toNat)).toNat) y_2.1)) 8 (updZ (D 8) ((d_1.1).toNat) (D 8 ((d_1.1).toNat) + 1))), (by rw [uCr, ← hed_1, uCr2, ← hey_2, uCr3, show aCrack D d_1.1 y_2.1 = (D 8 (d_1.1).toNat, u2 (u2 D 9 (updZ (D 9) ((d_1.1).toNat * 4 + (D 8 (d_1.1).toNat).toNat) y_2.1)) 8 (updZ (D 8) (d_1.1).toNat (D 8 (d_1.1).toNat + 1))) from (by (have hgg : ¬ uEnd S (M 9) y_2.2.1 y_2.2.2 = 0 := (of_decide_eq_true c_7).1); unfold aCrack; rw [if_neg (by omega), if_neg (by unfold isY; omega), if_neg hcc])]; exact uFin_t (b := true) (r := (D 8 (d_1.1).toNat, u2 (u2 D 9 (updZ (D 9) ((d_1.1).toNat * 4 + (D 8 (d_1.1).toNat).toNat) y_2.1)) 8 (updZ (D 8) (d_1.1).toNat (D 8 (d_1.1).toNat + 1)))) c_7 (by show (0 : Int) ≤ D 8 (d_1.1).toNat; omega)), rfl, rfl⟩) dX10_readCrack_62

theorem cd_X10_readSeal : cd yX10_readSeal 1 := by decide +kernel
theorem in_X10_readSeal_X10 : ∀ w ∈ wsX100, w ∈ wsX10_readSeal := by decide +kernel
set_option maxHeartbeats 4000000 in
set_option maxRecDepth 100000 in
theorem c_X10_readSeal (l : Launch) (g : va_G) (τ : Nat → ClassId) (ma : Nat → Nat) (M : Nat → Int) (S : Nat → Int) (hSB : SB S) (hPI : PI (M 9) (M 10) (M 11)) (D : Nat → Nat → Int) (hI : SI D) (m1 : Int) (hm1 : 0 ≤ m1 ∧ m1 ≤ 1)  : Met l yX10_readSeal wsX10_readSeal { frames := 3, cells := 0, slots := 0, locals := 73 } (va_Pc [Value.ref (ma 0), Value.int (iI m1)] (rwW g τ ([moO ma M, arC (ma 8) (τ 0) 120 S, arC (ma 3) (τ 0) 291 (flR D)]))) (rwQ g (fun v w => ∃ r : Int × Int × Int × (Nat → Nat → Int), r = uSe S (M 9) (M 10) (M 11) (M 12) D m1 ∧ v = none ∧ w = [moO ma (updZ (updZ (updZ M 10 r.1) 11 r.2.1) 12 r.2.2.1), arC (ma 8) (τ 0) 120 S, arC (ma 3) (τ 0) 291 (flR r.2.2.2)]) (inW ([moO ma M, arC (ma 8) (τ 0) 120 S, arC (ma 3) (τ 0) 291 (flR D)]))) 0 0 (inW ([moO ma M, arC (ma 8) (τ 0) 120 S, arC (ma 3) (τ 0) 291 (flR D)])) := by
  obtain ⟨hpi1, hpi2, hpi3, hpi4, hpi5⟩ := id hPI
  have hD0 := hI.d
  have hR0 := hI.r
  have hS0 := hI.s
  refine rwMet (cc := cX10_readSeal) (maxL := 7) (ret := none) (lv := [(0, Value.ref (ma 0)), (1, Value.int (iI m1))]) (by decide) rfl (Nat.le_of_ble_eq_true rfl) rfl ?_
  intro p e s m below meth c hx hb hr hml hts hown hlocks A H hP hD hS hK ls hl
  refine lv_aload_n hx hb dX10_readSeal_0 rfl (lv_at hl 0 rfl) ?_
  refine lv_iconst (v := iI 0) hx hb dX10_readSeal_1 (by decide) ?_
  refine lv_bipush (v := iI 9) hx hb dX10_readSeal_2 (by decide) ?_
  refine rw_V (As := [Value.int (iI 0), Value.int (iI 9)]) (rest := []) ⟨hx, hb, hml, hown, hts⟩ (c_X10_digit l g τ ma M S hSB (by show PI (M 9) (M 10) (M 11); exact ⟨by omega, by omega, by omega, by omega, by omega⟩) 0 9 (by omega) (by omega)) gX10_readSeal_X10_digit cd_X10_digit rfl rfl ⟨rfl, rfl⟩ ⟨Nat.le_of_ble_eq_true rfl, Nat.le_of_ble_eq_true rfl⟩ hK hP hD hS [0, 1] (rfl) (by decide) 0 rfl rfl rfl rfl hl rfl (Nat.le_of_ble_eq_true rfl) dX10_readSeal_4 ⟨Nat.le_of_ble_eq_true rfl, Nat.le_of_ble_eq_true rfl⟩ (fun v w h => by obtain ⟨x9, -, -, rfl⟩ := h; rfl) (fun v w1 H locs hZ hP hD hS => ?_)
  obtain ⟨d_1, hed_1, rfl, rfl⟩ := hZ
  have hP : va_P g vwCl ([moO ma (updZ (updZ M 10 d_1.2.1) 11 d_1.2.2), arC (ma 8) (τ 0) 120 S, arC (ma 3) (τ 0) 291 (flR D)]) H := hP
  have hD : va_D A ([moO ma (updZ (updZ M 10 d_1.2.1) 11 d_1.2.2), arC (ma 8) (τ 0) 120 S, arC (ma 3) (τ 0) 291 (flR D)]) := hD
  have hed_1 : d_1 = uD S (M 9) (M 10) (M 11) 0 9 := hed_1
  have hmd_1 := uD_m S (M 9) (M 10) (M 11) 0 9
  have hod_1 := uD_ok (S := S) (show PI (M 9) (M 10) (M 11) from ⟨by omega, by omega, by omega, by omega, by omega⟩) (show 0 ≤ 0 by omega) 9
  rw [← hed_1] at hmd_1 hod_1
  obtain ⟨hod_11, hod_12, hod_13, hod_14, hod_15⟩ := hod_1
  refine tl_some ?_
  refine lv_istore_n (lv' := [(2, Value.int (iI d_1.1)), (0, Value.ref (ma 0)), (1, Value.int (iI m1))]) hx hb dX10_readSeal_7 rfl hl (by decide) rfl (fun ls hl => ?_)
  refine lv_aload_n hx hb dX10_readSeal_8 rfl (lv_at hl 1 rfl) ?_
  refine ro_V (As := []) (rest := []) (v := some (Value.int (iI (uH S (M 9) d_1.2.1)))) ⟨hx, hb, hml, hown, hts⟩ (c_X10_here l g τ ma (updZ (updZ M 10 d_1.2.1) 11 d_1.2.2) S hSB (by show PI (M 9) d_1.2.1 d_1.2.2; exact ⟨by omega, by omega, by omega, by omega, by omega⟩)) gX10_readSeal_X10_here cd_X10_here rfl rfl ⟨rfl, rfl⟩ ⟨Nat.le_of_ble_eq_true rfl, Nat.le_of_ble_eq_true rfl⟩ hK (cut_P (is := [0, 1]) hP rfl) 0 rfl rfl rfl rfl hl rfl (Nat.le_of_ble_eq_true rfl) dX10_readSeal_9 ⟨Nat.le_of_ble_eq_true rfl, Nat.le_of_ble_eq_true rfl⟩ ?_
  refine tl_some ?_
  have huh := uH_b hSB (M 9) d_1.2.1
  refine lv_bipush (v := iI 46) hx hb dX10_readSeal_12 (by decide) ?_
  refine zi_icmp_ne (tgt := 21) hx hb ⟨by omega, by omega⟩ ⟨by decide, by decide⟩ dX10_readSeal_14 (by decide) (fun c_2 => ?_) (fun c_2 => ?_)
  · have _ := c_2
    refine lv_iconst (v := iI 0) hx hb dX10_readSeal_21 (by decide) ?_
    refine lv_istore_n (lv' := [(3, Value.int (iI 0)), (2, Value.int (iI d_1.1)), (0, Value.ref (ma 0)), (1, Value.int (iI m1))]) hx hb dX10_readSeal_22 rfl hl (by decide) rfl (fun ls hl => ?_)
    refine lv_iload_n hx hb dX10_readSeal_23 rfl (lv_at hl 0 rfl) ?_
    refine zi_if_eq (tgt := 31) hx hb ⟨by decide, by decide⟩ dX10_readSeal_24 (by decide) (fun c_3 => ?_) (fun c_3 => ?_)
    · skip
      refine lv_aload_n hx hb dX10_readSeal_31 rfl (lv_at hl 2 rfl) ?_
      refine lv_iconst (v := iI 0) hx hb dX10_readSeal_32 (by decide) ?_
      refine lv_bipush (v := iI 7) hx hb dX10_readSeal_33 (by decide) ?_
      refine rw_V (As := [Value.int (iI 0), Value.int (iI 7)]) (rest := []) ⟨hx, hb, hml, hown, hts⟩ (c_X10_digit l g τ ma (updZ (updZ M 10 d_1.2.1) 11 d_1.2.2) S hSB (by show PI (M 9) d_1.2.1 d_1.2.2; exact ⟨by omega, by omega, by omega, by omega, by omega⟩) 0 7 (by omega) (by omega)) gX10_readSeal_X10_digit cd_X10_digit rfl rfl ⟨rfl, rfl⟩ ⟨Nat.le_of_ble_eq_true rfl, Nat.le_of_ble_eq_true rfl⟩ hK hP hD hS [0, 1] (rfl) (by decide) 0 rfl rfl rfl rfl hl rfl (Nat.le_of_ble_eq_true rfl) dX10_readSeal_35 ⟨Nat.le_of_ble_eq_true rfl, Nat.le_of_ble_eq_true rfl⟩ (fun v w h => by obtain ⟨x9, -, -, rfl⟩ := h; rfl) (fun v w1 H locs hZ hP hD hS => ?_)
      obtain ⟨d_4, hed_4, rfl, rfl⟩ := hZ
      have hP : va_P g vwCl ([moO ma (updZ (updZ M 10 d_4.2.1) 11 d_4.2.2), arC (ma 8) (τ 0) 120 S, arC (ma 3) (τ 0) 291 (flR D)]) H := hP
      have hD : va_D A ([moO ma (updZ (updZ M 10 d_4.2.1) 11 d_4.2.2), arC (ma 8) (τ 0) 120 S, arC (ma 3) (τ 0) 291 (flR D)]) := hD
      have hed_4 : d_4 = uD S (M 9) d_1.2.1 d_1.2.2 0 7 := hed_4
      have hmd_4 := uD_m S (M 9) d_1.2.1 d_1.2.2 0 7
      have hod_4 := uD_ok (S := S) (show PI (M 9) d_1.2.1 d_1.2.2 from ⟨by omega, by omega, by omega, by omega, by omega⟩) (show 0 ≤ 0 by omega) 7
      rw [← hed_4] at hmd_4 hod_4
      obtain ⟨hod_41, hod_42, hod_43, hod_44, hod_45⟩ := hod_4
      refine tl_some ?_
      refine lv_istore (lv' := [(4, Value.int (iI d_4.1)), (3, Value.int (iI 0)), (2, Value.int (iI d_1.1)), (0, Value.ref (ma 0)), (1, Value.int (iI m1))]) hx hb dX10_readSeal_38 hl (by decide) rfl (fun ls hl => ?_)
      refine lv_iload_n hx hb dX10_readSeal_40 rfl (lv_at hl 1 rfl) ?_
      refine zi_if_eq (tgt := 49) hx hb ⟨by decide, by decide⟩ dX10_readSeal_41 (by decide) (fun c_5 => ?_) (fun c_5 => ?_)
      · skip
        refine lv_bipush (v := iI 10) hx hb dX10_readSeal_49 (by decide) ?_
        refine lv_aload_n hx hb dX10_readSeal_51 rfl (lv_at hl 3 rfl) ?_
        refine lv_iconst (v := iI 0) hx hb dX10_readSeal_52 (by decide) ?_
        refine lv_bipush (v := iI 9) hx hb dX10_readSeal_53 (by decide) ?_
        refine rw_V (As := [Value.int (iI 0), Value.int (iI 9)]) (rest := [Value.int (iI 10)]) ⟨hx, hb, hml, hown, hts⟩ (c_X10_digit l g τ ma (updZ (updZ M 10 d_4.2.1) 11 d_4.2.2) S hSB (by show PI (M 9) d_4.2.1 d_4.2.2; exact ⟨by omega, by omega, by omega, by omega, by omega⟩) 0 9 (by omega) (by omega)) gX10_readSeal_X10_digit cd_X10_digit rfl rfl ⟨rfl, rfl⟩ ⟨Nat.le_of_ble_eq_true rfl, Nat.le_of_ble_eq_true rfl⟩ hK hP hD hS [0, 1] (rfl) (by decide) 0 rfl rfl rfl rfl hl rfl (Nat.le_of_ble_eq_true rfl) dX10_readSeal_55 ⟨Nat.le_of_ble_eq_true rfl, Nat.le_of_ble_eq_true rfl⟩ (fun v w h => by obtain ⟨x9, -, -, rfl⟩ := h; rfl) (fun v w1 H locs hZ hP hD hS => ?_)
        obtain ⟨d_6, hed_6, rfl, rfl⟩ := hZ
        have hP : va_P g vwCl ([moO ma (updZ (updZ M 10 d_6.2.1) 11 d_6.2.2), arC (ma 8) (τ 0) 120 S, arC (ma 3) (τ 0) 291 (flR D)]) H := hP
        have hD : va_D A ([moO ma (updZ (updZ M 10 d_6.2.1) 11 d_6.2.2), arC (ma 8) (τ 0) 120 S, arC (ma 3) (τ 0) 291 (flR D)]) := hD
        have hed_6 : d_6 = uD S (M 9) d_4.2.1 d_4.2.2 0 9 := hed_6
        have hmd_6 := uD_m S (M 9) d_4.2.1 d_4.2.2 0 9
        have hod_6 := uD_ok (S := S) (show PI (M 9) d_4.2.1 d_4.2.2 from ⟨by omega, by omega, by omega, by omega, by omega⟩) (show 0 ≤ 0 by omega) 9
        rw [← hed_6] at hmd_6 hod_6
        obtain ⟨hod_61, hod_62, hod_63, hod_64, hod_65⟩ := hod_6
        refine tl_some ?_
        refine zi_mul hx hb dX10_readSeal_58 ?_
        refine lv_istore (lv' := [(5, Value.int (iI (10 * d_6.1))), (4, Value.int (iI d_4.1)), (3, Value.int (iI 0)), (2, Value.int (iI d_1.1)), (0, Value.ref (ma 0)), (1, Value.int (iI m1))]) hx hb dX10_readSeal_59 hl (by decide) rfl (fun ls hl => ?_)
        refine lv_iload hx hb dX10_readSeal_61 (lv_at hl 0 rfl) ?_
        refine lv_aload_n hx hb dX10_readSeal_63 rfl (lv_at hl 4 rfl) ?_
        refine lv_iconst (v := iI 0) hx hb dX10_readSeal_64 (by decide) ?_
        refine lv_bipush (v := iI 9) hx hb dX10_readSeal_65 (by decide) ?_
        refine rw_V (As := [Value.int (iI 0), Value.int (iI 9)]) (rest := [Value.int (iI (10 * d_6.1))]) ⟨hx, hb, hml, hown, hts⟩ (c_X10_digit l g τ ma (updZ (updZ M 10 d_6.2.1) 11 d_6.2.2) S hSB (by show PI (M 9) d_6.2.1 d_6.2.2; exact ⟨by omega, by omega, by omega, by omega, by omega⟩) 0 9 (by omega) (by omega)) gX10_readSeal_X10_digit cd_X10_digit rfl rfl ⟨rfl, rfl⟩ ⟨Nat.le_of_ble_eq_true rfl, Nat.le_of_ble_eq_true rfl⟩ hK hP hD hS [0, 1] (rfl) (by decide) 0 rfl rfl rfl rfl hl rfl (Nat.le_of_ble_eq_true rfl) dX10_readSeal_67 ⟨Nat.le_of_ble_eq_true rfl, Nat.le_of_ble_eq_true rfl⟩ (fun v w h => by obtain ⟨x9, -, -, rfl⟩ := h; rfl) (fun v w1 H locs hZ hP hD hS => ?_)
        obtain ⟨d_7, hed_7, rfl, rfl⟩ := hZ
        have hP : va_P g vwCl ([moO ma (updZ (updZ M 10 d_7.2.1) 11 d_7.2.2), arC (ma 8) (τ 0) 120 S, arC (ma 3) (τ 0) 291 (flR D)]) H := hP
        have hD : va_D A ([moO ma (updZ (updZ M 10 d_7.2.1) 11 d_7.2.2), arC (ma 8) (τ 0) 120 S, arC (ma 3) (τ 0) 291 (flR D)]) := hD
        have hed_7 : d_7 = uD S (M 9) d_6.2.1 d_6.2.2 0 9 := hed_7
        have hmd_7 := uD_m S (M 9) d_6.2.1 d_6.2.2 0 9
        have hod_7 := uD_ok (S := S) (show PI (M 9) d_6.2.1 d_6.2.2 from ⟨by omega, by omega, by omega, by omega, by omega⟩) (show 0 ≤ 0 by omega) 9
        rw [← hed_7] at hmd_7 hod_7
        obtain ⟨hod_71, hod_72, hod_73, hod_74, hod_75⟩ := hod_7
        refine tl_some ?_
        refine zi_add hx hb dX10_readSeal_70 ?_
        refine lv_istore (lv' := [(5, Value.int (iI ((10 * d_6.1) + d_7.1))), (4, Value.int (iI d_4.1)), (3, Value.int (iI 0)), (2, Value.int (iI d_1.1)), (0, Value.ref (ma 0)), (1, Value.int (iI m1))]) hx hb dX10_readSeal_71 hl (by decide) rfl (fun ls hl => ?_)
        refine lv_aload_n hx hb dX10_readSeal_73 rfl (lv_at hl 4 rfl) ?_
        refine lv_iconst (v := iI 0) hx hb dX10_readSeal_74 (by decide) ?_
        refine lv_iconst (v := iI 3) hx hb dX10_readSeal_75 (by decide) ?_
        refine rw_V (As := [Value.int (iI 0), Value.int (iI 3)]) (rest := []) ⟨hx, hb, hml, hown, hts⟩ (c_X10_ascending l g τ ma (updZ (updZ M 10 d_7.2.1) 11 d_7.2.2) S hSB (by show PI (M 9) d_7.2.1 d_7.2.2; exact ⟨by omega, by omega, by omega, by omega, by omega⟩) 0 3 (by omega) ⟨by omega, by omega, by show ¬ d_7.2.2 = 0 → _; omega⟩) gX10_readSeal_X10_ascending cd_X10_ascending rfl rfl ⟨rfl, rfl⟩ ⟨Nat.le_of_ble_eq_true rfl, Nat.le_of_ble_eq_true rfl⟩ hK hP hD hS [0, 1] (rfl) (by decide) 0 rfl rfl rfl rfl hl rfl (Nat.le_of_ble_eq_true rfl) dX10_readSeal_76 ⟨Nat.le_of_ble_eq_true rfl, Nat.le_of_ble_eq_true rfl⟩ (fun v w h => by obtain ⟨x9, -, -, rfl⟩ := h; rfl) (fun v w1 H locs hZ hP hD hS => ?_)
        obtain ⟨u_8, heu_8, rfl, rfl⟩ := hZ
        have hP : va_P g vwCl ([moO ma (updZ (updZ M 10 u_8.2.2.1) 11 u_8.2.2.2), arC (ma 8) (τ 0) 120 S, arC (ma 3) (τ 0) 291 (flR D)]) H := hP
        have hD : va_D A ([moO ma (updZ (updZ M 10 u_8.2.2.1) 11 u_8.2.2.2), arC (ma 8) (τ 0) 120 S, arC (ma 3) (τ 0) 291 (flR D)]) := hD
        have heu_8 : u_8 = uAs S (M 9) 3 (0, 0, d_7.2.1, d_7.2.2) 122 := heu_8
        have hou_8 := uAs_ok (S := S) (n := (M 9)) (hi := 3) ⟨by omega, by omega⟩ (s0 := (0, 0, d_7.2.1, d_7.2.2)) (uOK_i (by omega) (by omega) (by omega) ⟨by omega, by omega, by omega, by omega, by omega⟩) 122
        have hmu_8 := uAs_m (S := S) (n := (M 9)) (hi := 3) (s0 := (0, 0, d_7.2.1, d_7.2.2)) 122
        rw [← heu_8] at hmu_8 hou_8
        have hmu_8 : ¬ u_8.2.2.2 = 0 → ¬ d_7.2.2 = 0 := hmu_8
        obtain ⟨⟨hou_81, hou_82⟩, hou_83, hou_84, hou_85, hou_86, hou_87, hou_88, hou_89, hou_810⟩ := hou_8
        refine tl_some ?_
        refine lv_istore (lv' := [(6, Value.int (iI u_8.1)), (5, Value.int (iI ((10 * d_6.1) + d_7.1))), (4, Value.int (iI d_4.1)), (3, Value.int (iI 0)), (2, Value.int (iI d_1.1)), (0, Value.ref (ma 0)), (1, Value.int (iI m1))]) hx hb dX10_readSeal_79 hl (by decide) rfl (fun ls hl => ?_)
        refine lv_aload_n hx hb dX10_readSeal_81 rfl (lv_at hl 5 rfl) ?_
        refine lv_aload_n hx hb dX10_readSeal_82 rfl (lv_at hl 5 rfl) ?_
        refine va_get (D := g) (ci := 10) (v := Value.ref (ma 3)) (C := RX10) (T := TX10) (N := 18) hx hb hts in_X10_readSeal_X10 hown hK.1 hP 0 (rfl) rfl 3 (by decide) (hts _ (List.mem_of_getElem? (i := 1) rfl) : (Cond.fieldLink RX10 16 "CordSealsModel" "read" "[I").before _ s = true) (fun _ h9 => h9) rfl dX10_readSeal_83 ?_
        refine lv_iload_n hx hb dX10_readSeal_86 rfl (lv_at hl 4 rfl) ?_
        refine ro_S (As := [Value.ref (ma 3), Value.int (iI d_1.1)]) (rest := [Value.ref (ma 0)]) (v := some (Value.int (iI (zB (decide (0 ≤ d_1.1 ∧ d_1.1 ≤ D 4 0 - 1)))))) ⟨hx, hb, hml, hown, hts⟩ (c_X10_hasDie l g τ (ma 3) D hI d_1.1 ⟨by omega, by omega⟩) gX10_readSeal_X10_hasDie cd_X10_hasDie rfl ⟨rfl, rfl⟩ ⟨Nat.le_of_ble_eq_true rfl, Nat.le_of_ble_eq_true rfl⟩ hK (cut_P (is := [2]) hP rfl) rfl hl rfl (Nat.le_of_ble_eq_true rfl) dX10_readSeal_87 ⟨Nat.le_of_ble_eq_true rfl, Nat.le_of_ble_eq_true rfl⟩ ?_
        refine tl_some ?_
        refine zb_if_eq (tgt := 121) hx hb dX10_readSeal_90 (by decide) (fun c_9 => ?_) (fun c_9 => ?_)
        · have cd_c_9 := of_decide_eq_false c_9
          refine lv_iconst (v := iI 0) hx hb dX10_readSeal_121 (by decide) ?_
          refine rw_V (As := [Value.int (iI 0)]) (rest := []) ⟨hx, hb, hml, hown, hts⟩ (c_X10_goes l g τ ma (updZ (updZ M 10 u_8.2.2.1) 11 u_8.2.2.2) false (by show 0 ≤ u_8.2.2.2 ∧ u_8.2.2.2 ≤ 1; omega)) gX10_readSeal_X10_goes cd_X10_goes rfl rfl ⟨rfl, rfl⟩ ⟨Nat.le_of_ble_eq_true rfl, Nat.le_of_ble_eq_true rfl⟩ hK hP hD hS [0] (rfl) (by decide) 0 rfl rfl rfl rfl hl rfl (Nat.le_of_ble_eq_true rfl) dX10_readSeal_122 ⟨Nat.le_of_ble_eq_true rfl, Nat.le_of_ble_eq_true rfl⟩ (fun v w h => by rw [h.2]; rfl) (fun v w1 H locs hZ hP hD hS => ?_)
          obtain ⟨rfl, rfl⟩ := hZ
          have hP : va_P g vwCl ([moO ma (updZ (updZ (updZ M 10 u_8.2.2.1) 11 u_8.2.2.2) 12 (M 12 + (if ¬ u_8.2.2.2 = 0 ∧ false = false then 1 else 0))), arC (ma 8) (τ 0) 120 S, arC (ma 3) (τ 0) 291 (flR D)]) H := hP
          have hD : va_D A ([moO ma (updZ (updZ (updZ M 10 u_8.2.2.1) 11 u_8.2.2.2) 12 (M 12 + (if ¬ u_8.2.2.2 = 0 ∧ false = false then 1 else 0))), arC (ma 8) (τ 0) 120 S, arC (ma 3) (τ 0) 291 (flR D)]) := hD
          refine tl_some ?_
          refine zb_if_eq (tgt := 144) hx hb dX10_readSeal_125 (by decide) (fun c_10 => ?_) (fun c_10 => ?_)
          · have _ := c_10
            exact rw_vret hx hb hr hlocks hP hS (by exact ⟨(u_8.2.2.1, u_8.2.2.2, M 12 + (if ¬ u_8.2.2.2 = 0 ∧ false = false then 1 else 0), D), (by rw [uSe, ← hed_1, uSe2, show uCo S (M 9) d_1.2.1 d_1.2.2 = d_4 from (by rw [uCo, if_neg (by omega), ← hed_4]), uSe3, ← hed_6, uSe4, ← hed_7, uSe5, ← heu_8, uSe6]; exact uFin_f (b := false) c_10 (fun hg hb9 => by first | exact absurd hb9 (by decide) | (rw [show aSeal D d_1.1 m1 d_4.1 (10 * d_6.1 + d_7.1) u_8.1 = (-2, D) from (by unfold aSeal; rw [if_pos (by omega)])]; exact ⟨by show (-2 : Int) < 0; decide, rfl⟩) | (rw [show aSeal D d_1.1 m1 d_4.1 (10 * d_6.1 + d_7.1) u_8.1 = (-3, D) from (by unfold aSeal; rw [if_neg (by omega), if_pos (by omega)])]; exact ⟨by show (-3 : Int) < 0; decide, rfl⟩) | (rw [show aSeal D d_1.1 m1 d_4.1 (10 * d_6.1 + d_7.1) u_8.1 = (-4, D) from (by unfold aSeal; rw [if_neg (by omega), if_neg (by omega), if_pos (by omega)])]; exact ⟨by show (-4 : Int) < 0; decide, rfl⟩))), rfl, rfl⟩) dX10_readSeal_144
          · exact absurd (of_decide_eq_true c_10).2 (by decide)
        · have cd_c_9 := of_decide_eq_true c_9
          have hdl := hI.ds (d_1.1).toNat (by omega)
          have hpw := pow_r (m := (D 8 (d_1.1).toNat).toNat) (by omega)
          refine lv_aload_n hx hb dX10_readSeal_93 rfl (lv_at hl 5 rfl) ?_
          refine va_get (D := g) (ci := 10) (v := Value.ref (ma 3)) (C := RX10) (T := TX10) (N := 18) hx hb hts in_X10_readSeal_X10 hown hK.1 hP 0 (rfl) rfl 3 (by decide) (hts _ (List.mem_of_getElem? (i := 1) rfl) : (Cond.fieldLink RX10 16 "CordSealsModel" "read" "[I").before _ s = true) (fun _ h9 => h9) rfl dX10_readSeal_94 ?_
          refine lv_iload_n hx hb dX10_readSeal_97 rfl (lv_at hl 4 rfl) ?_
          refine cv_i (y := iI (((d_1.1).toNat : Nat) : Int)) (congrArg iI (by omega)) ?_
          refine lv_iload hx hb dX10_readSeal_98 (lv_at hl 0 rfl) ?_
          refine ro_S (As := [Value.ref (ma 3), Value.int (iI (((d_1.1).toNat : Nat) : Int)), Value.int (iI u_8.1)]) (rest := [Value.ref (ma 0)]) (v := some (Value.int (iI (zB (decide (0 ≤ u_8.1 ∧ u_8.1 ≤ (2 : Int) ^ (D 8 ((d_1.1).toNat)).toNat - 1)))))) ⟨hx, hb, hml, hown, hts⟩ (c_X10_areCracks l g τ (ma 3) D hI ((d_1.1).toNat) (by omega) u_8.1 ⟨by omega, by omega⟩) gX10_readSeal_X10_areCracks cd_X10_areCracks rfl ⟨rfl, rfl⟩ ⟨Nat.le_of_ble_eq_true rfl, Nat.le_of_ble_eq_true rfl⟩ hK (cut_P (is := [2]) hP rfl) rfl hl rfl (Nat.le_of_ble_eq_true rfl) dX10_readSeal_100 ⟨Nat.le_of_ble_eq_true rfl, Nat.le_of_ble_eq_true rfl⟩ ?_
          refine tl_some ?_
          refine zb_if_eq (tgt := 121) hx hb dX10_readSeal_103 (by decide) (fun c_11 => ?_) (fun c_11 => ?_)
          · have cd_c_11 := of_decide_eq_false c_11
            refine lv_iconst (v := iI 0) hx hb dX10_readSeal_121 (by decide) ?_
            refine rw_V (As := [Value.int (iI 0)]) (rest := []) ⟨hx, hb, hml, hown, hts⟩ (c_X10_goes l g τ ma (updZ (updZ M 10 u_8.2.2.1) 11 u_8.2.2.2) false (by show 0 ≤ u_8.2.2.2 ∧ u_8.2.2.2 ≤ 1; omega)) gX10_readSeal_X10_goes cd_X10_goes rfl rfl ⟨rfl, rfl⟩ ⟨Nat.le_of_ble_eq_true rfl, Nat.le_of_ble_eq_true rfl⟩ hK hP hD hS [0] (rfl) (by decide) 0 rfl rfl rfl rfl hl rfl (Nat.le_of_ble_eq_true rfl) dX10_readSeal_122 ⟨Nat.le_of_ble_eq_true rfl, Nat.le_of_ble_eq_true rfl⟩ (fun v w h => by rw [h.2]; rfl) (fun v w1 H locs hZ hP hD hS => ?_)
            obtain ⟨rfl, rfl⟩ := hZ
            have hP : va_P g vwCl ([moO ma (updZ (updZ (updZ M 10 u_8.2.2.1) 11 u_8.2.2.2) 12 (M 12 + (if ¬ u_8.2.2.2 = 0 ∧ false = false then 1 else 0))), arC (ma 8) (τ 0) 120 S, arC (ma 3) (τ 0) 291 (flR D)]) H := hP
            have hD : va_D A ([moO ma (updZ (updZ (updZ M 10 u_8.2.2.1) 11 u_8.2.2.2) 12 (M 12 + (if ¬ u_8.2.2.2 = 0 ∧ false = false then 1 else 0))), arC (ma 8) (τ 0) 120 S, arC (ma 3) (τ 0) 291 (flR D)]) := hD
            refine tl_some ?_
            refine zb_if_eq (tgt := 144) hx hb dX10_readSeal_125 (by decide) (fun c_12 => ?_) (fun c_12 => ?_)
            · have _ := c_12
              exact rw_vret hx hb hr hlocks hP hS (by exact ⟨(u_8.2.2.1, u_8.2.2.2, M 12 + (if ¬ u_8.2.2.2 = 0 ∧ false = false then 1 else 0), D), (by rw [uSe, ← hed_1, uSe2, show uCo S (M 9) d_1.2.1 d_1.2.2 = d_4 from (by rw [uCo, if_neg (by omega), ← hed_4]), uSe3, ← hed_6, uSe4, ← hed_7, uSe5, ← heu_8, uSe6]; exact uFin_f (b := false) c_12 (fun hg hb9 => by first | exact absurd hb9 (by decide) | (rw [show aSeal D d_1.1 m1 d_4.1 (10 * d_6.1 + d_7.1) u_8.1 = (-2, D) from (by unfold aSeal; rw [if_pos (by omega)])]; exact ⟨by show (-2 : Int) < 0; decide, rfl⟩) | (rw [show aSeal D d_1.1 m1 d_4.1 (10 * d_6.1 + d_7.1) u_8.1 = (-3, D) from (by unfold aSeal; rw [if_neg (by omega), if_pos (by omega)])]; exact ⟨by show (-3 : Int) < 0; decide, rfl⟩) | (rw [show aSeal D d_1.1 m1 d_4.1 (10 * d_6.1 + d_7.1) u_8.1 = (-4, D) from (by unfold aSeal; rw [if_neg (by omega), if_neg (by omega), if_pos (by omega)])]; exact ⟨by show (-4 : Int) < 0; decide, rfl⟩))), rfl, rfl⟩) dX10_readSeal_144
            · exact absurd (of_decide_eq_true c_12).2 (by decide)
          · have cd_c_11 := of_decide_eq_true c_11
            refine lv_aload_n hx hb dX10_readSeal_106 rfl (lv_at hl 5 rfl) ?_
            refine va_get (D := g) (ci := 10) (v := Value.ref (ma 3)) (C := RX10) (T := TX10) (N := 18) hx hb hts in_X10_readSeal_X10 hown hK.1 hP 0 (rfl) rfl 3 (by decide) (hts _ (List.mem_of_getElem? (i := 1) rfl) : (Cond.fieldLink RX10 16 "CordSealsModel" "read" "[I").before _ s = true) (fun _ h9 => h9) rfl dX10_readSeal_107 ?_
            refine lv_iconst (v := iI 2) hx hb dX10_readSeal_110 (by decide) ?_
            refine zf_ald hx hb hK hP 2 (f := flR D) rfl (2) (rfl) (by omega) (by decide) (z := D 10 0) (fl_10) dX10_readSeal_111 ?_
            refine lv_bipush (v := iI 24) hx hb dX10_readSeal_112 (by decide) ?_
            refine zi_icmp_ge (tgt := 121) hx hb ⟨by omega, by omega⟩ ⟨by decide, by decide⟩ dX10_readSeal_114 (by decide) (fun c_13 => ?_) (fun c_13 => ?_)
            · have _ := c_13
              refine lv_iconst (v := iI 0) hx hb dX10_readSeal_121 (by decide) ?_
              refine rw_V (As := [Value.int (iI 0)]) (rest := []) ⟨hx, hb, hml, hown, hts⟩ (c_X10_goes l g τ ma (updZ (updZ M 10 u_8.2.2.1) 11 u_8.2.2.2) false (by show 0 ≤ u_8.2.2.2 ∧ u_8.2.2.2 ≤ 1; omega)) gX10_readSeal_X10_goes cd_X10_goes rfl rfl ⟨rfl, rfl⟩ ⟨Nat.le_of_ble_eq_true rfl, Nat.le_of_ble_eq_true rfl⟩ hK hP hD hS [0] (rfl) (by decide) 0 rfl rfl rfl rfl hl rfl (Nat.le_of_ble_eq_true rfl) dX10_readSeal_122 ⟨Nat.le_of_ble_eq_true rfl, Nat.le_of_ble_eq_true rfl⟩ (fun v w h => by rw [h.2]; rfl) (fun v w1 H locs hZ hP hD hS => ?_)
              obtain ⟨rfl, rfl⟩ := hZ
              have hP : va_P g vwCl ([moO ma (updZ (updZ (updZ M 10 u_8.2.2.1) 11 u_8.2.2.2) 12 (M 12 + (if ¬ u_8.2.2.2 = 0 ∧ false = false then 1 else 0))), arC (ma 8) (τ 0) 120 S, arC (ma 3) (τ 0) 291 (flR D)]) H := hP
              have hD : va_D A ([moO ma (updZ (updZ (updZ M 10 u_8.2.2.1) 11 u_8.2.2.2) 12 (M 12 + (if ¬ u_8.2.2.2 = 0 ∧ false = false then 1 else 0))), arC (ma 8) (τ 0) 120 S, arC (ma 3) (τ 0) 291 (flR D)]) := hD
              refine tl_some ?_
              refine zb_if_eq (tgt := 144) hx hb dX10_readSeal_125 (by decide) (fun c_14 => ?_) (fun c_14 => ?_)
              · have _ := c_14
                exact rw_vret hx hb hr hlocks hP hS (by exact ⟨(u_8.2.2.1, u_8.2.2.2, M 12 + (if ¬ u_8.2.2.2 = 0 ∧ false = false then 1 else 0), D), (by rw [uSe, ← hed_1, uSe2, show uCo S (M 9) d_1.2.1 d_1.2.2 = d_4 from (by rw [uCo, if_neg (by omega), ← hed_4]), uSe3, ← hed_6, uSe4, ← hed_7, uSe5, ← heu_8, uSe6]; exact uFin_f (b := false) c_14 (fun hg hb9 => by first | exact absurd hb9 (by decide) | (rw [show aSeal D d_1.1 m1 d_4.1 (10 * d_6.1 + d_7.1) u_8.1 = (-2, D) from (by unfold aSeal; rw [if_pos (by omega)])]; exact ⟨by show (-2 : Int) < 0; decide, rfl⟩) | (rw [show aSeal D d_1.1 m1 d_4.1 (10 * d_6.1 + d_7.1) u_8.1 = (-3, D) from (by unfold aSeal; rw [if_neg (by omega), if_pos (by omega)])]; exact ⟨by show (-3 : Int) < 0; decide, rfl⟩) | (rw [show aSeal D d_1.1 m1 d_4.1 (10 * d_6.1 + d_7.1) u_8.1 = (-4, D) from (by unfold aSeal; rw [if_neg (by omega), if_neg (by omega), if_pos (by omega)])]; exact ⟨by show (-4 : Int) < 0; decide, rfl⟩))), rfl, rfl⟩) dX10_readSeal_144
              · exact absurd (of_decide_eq_true c_14).2 (by decide)
            · have _ := c_13
              refine lv_iconst (v := iI 1) hx hb dX10_readSeal_117 (by decide) ?_
              refine lv_goto (tgt := 122) hx hb dX10_readSeal_118 (by decide) ?_
              refine rw_V (As := [Value.int (iI 1)]) (rest := []) ⟨hx, hb, hml, hown, hts⟩ (c_X10_goes l g τ ma (updZ (updZ M 10 u_8.2.2.1) 11 u_8.2.2.2) true (by show 0 ≤ u_8.2.2.2 ∧ u_8.2.2.2 ≤ 1; omega)) gX10_readSeal_X10_goes cd_X10_goes rfl rfl ⟨rfl, rfl⟩ ⟨Nat.le_of_ble_eq_true rfl, Nat.le_of_ble_eq_true rfl⟩ hK hP hD hS [0] (rfl) (by decide) 0 rfl rfl rfl rfl hl rfl (Nat.le_of_ble_eq_true rfl) dX10_readSeal_122 ⟨Nat.le_of_ble_eq_true rfl, Nat.le_of_ble_eq_true rfl⟩ (fun v w h => by rw [h.2]; rfl) (fun v w1 H locs hZ hP hD hS => ?_)
              obtain ⟨rfl, rfl⟩ := hZ
              have hP : va_P g vwCl ([moO ma (updZ (updZ (updZ M 10 u_8.2.2.1) 11 u_8.2.2.2) 12 (M 12 + (if ¬ u_8.2.2.2 = 0 ∧ true = false then 1 else 0))), arC (ma 8) (τ 0) 120 S, arC (ma 3) (τ 0) 291 (flR D)]) H := hP
              have hD : va_D A ([moO ma (updZ (updZ (updZ M 10 u_8.2.2.1) 11 u_8.2.2.2) 12 (M 12 + (if ¬ u_8.2.2.2 = 0 ∧ true = false then 1 else 0))), arC (ma 8) (τ 0) 120 S, arC (ma 3) (τ 0) 291 (flR D)]) := hD
              refine tl_some ?_
              refine zb_if_eq (tgt := 144) hx hb dX10_readSeal_125 (by decide) (fun c_15 => ?_) (fun c_15 => ?_)
              · have _ := c_15
                exact rw_vret hx hb hr hlocks hP hS (by exact ⟨(u_8.2.2.1, u_8.2.2.2, M 12 + (if ¬ u_8.2.2.2 = 0 ∧ true = false then 1 else 0), D), (by rw [uSe, ← hed_1, uSe2, show uCo S (M 9) d_1.2.1 d_1.2.2 = d_4 from (by rw [uCo, if_neg (by omega), ← hed_4]), uSe3, ← hed_6, uSe4, ← hed_7, uSe5, ← heu_8, uSe6]; exact uFin_f (b := true) c_15 (fun hg hb9 => by first | exact absurd hb9 (by decide) | (rw [show aSeal D d_1.1 m1 d_4.1 (10 * d_6.1 + d_7.1) u_8.1 = (-2, D) from (by unfold aSeal; rw [if_pos (by omega)])]; exact ⟨by show (-2 : Int) < 0; decide, rfl⟩) | (rw [show aSeal D d_1.1 m1 d_4.1 (10 * d_6.1 + d_7.1) u_8.1 = (-3, D) from (by unfold aSeal; rw [if_neg (by omega), if_pos (by omega)])]; exact ⟨by show (-3 : Int) < 0; decide, rfl⟩) | (rw [show aSeal D d_1.1 m1 d_4.1 (10 * d_6.1 + d_7.1) u_8.1 = (-4, D) from (by unfold aSeal; rw [if_neg (by omega), if_neg (by omega), if_pos (by omega)])]; exact ⟨by show (-4 : Int) < 0; decide, rfl⟩))), rfl, rfl⟩) dX10_readSeal_144
              · have _ := c_15
                refine lv_aload_n hx hb dX10_readSeal_128 rfl (lv_at hl 5 rfl) ?_
                refine va_get (D := g) (ci := 10) (v := Value.ref (ma 3)) (C := RX10) (T := TX10) (N := 18) hx hb hts in_X10_readSeal_X10 hown hK.1 hP 0 (rfl) rfl 3 (by decide) (hts _ (List.mem_of_getElem? (i := 1) rfl) : (Cond.fieldLink RX10 16 "CordSealsModel" "read" "[I").before _ s = true) (fun _ h9 => h9) rfl dX10_readSeal_129 ?_
                refine lv_iload_n hx hb dX10_readSeal_132 rfl (lv_at hl 4 rfl) ?_
                refine lv_iload_n hx hb dX10_readSeal_133 rfl (lv_at hl 6 rfl) ?_
                refine lv_iload hx hb dX10_readSeal_134 (lv_at hl 2 rfl) ?_
                refine lv_iload hx hb dX10_readSeal_136 (lv_at hl 1 rfl) ?_
                refine lv_iload hx hb dX10_readSeal_138 (lv_at hl 0 rfl) ?_
                refine rw_S (As := [Value.ref (ma 3), Value.int (iI d_1.1), Value.int (iI m1), Value.int (iI d_4.1), Value.int (iI ((10 * d_6.1) + d_7.1)), Value.int (iI u_8.1)]) (rest := []) ⟨hx, hb, hml, hown, hts⟩ (c_X10_goSeal l g τ (ma 3) D hI d_1.1 ⟨by omega, by omega⟩ m1 ⟨by omega, by omega⟩ d_4.1 ⟨by omega, by omega⟩ ((10 * d_6.1) + d_7.1) ⟨by omega, by omega⟩ u_8.1 ⟨by omega, by omega⟩ (by omega)) gX10_readSeal_X10_goSeal cd_X10_goSeal rfl ⟨rfl, rfl⟩ ⟨Nat.le_of_ble_eq_true rfl, Nat.le_of_ble_eq_true rfl⟩ hK hP hD hS [2] (rfl) (by decide) rfl hl rfl (Nat.le_of_ble_eq_true rfl) dX10_readSeal_140 ⟨Nat.le_of_ble_eq_true rfl, Nat.le_of_ble_eq_true rfl⟩ (fun v w h => by rw [h.2]; exact f_fl _ _ _ _) (fun v w1 H locs hZ hP hD hS => ?_)
                obtain ⟨rfl, rfl⟩ := hZ
                have hP : va_P g vwCl ([moO ma (updZ (updZ (updZ M 10 u_8.2.2.1) 11 u_8.2.2.2) 12 (M 12 + (if ¬ u_8.2.2.2 = 0 ∧ true = false then 1 else 0))), arC (ma 8) (τ 0) 120 S, arC (ma 3) (τ 0) 291 (flR (u2 (u2 (u2 (u2 (u2 (u2 (u2 D 11 (updZ (D 11) (D 10 0).toNat d_1.1)) 12 (updZ (D 12) (D 10 0).toNat m1)) 13 (updZ (D 13) (D 10 0).toNat d_4.1)) 14 (updZ (D 14) (D 10 0).toNat ((10 * d_6.1) + d_7.1))) 15 (updZ (D 15) (D 10 0).toNat u_8.1)) 16 (updZ (D 16) (D 10 0).toNat (-1))) 10 (fun _ => D 10 0 + 1)))]) H := hP
                have hD : va_D A ([moO ma (updZ (updZ (updZ M 10 u_8.2.2.1) 11 u_8.2.2.2) 12 (M 12 + (if ¬ u_8.2.2.2 = 0 ∧ true = false then 1 else 0))), arC (ma 8) (τ 0) 120 S, arC (ma 3) (τ 0) 291 (flR (u2 (u2 (u2 (u2 (u2 (u2 (u2 D 11 (updZ (D 11) (D 10 0).toNat d_1.1)) 12 (updZ (D 12) (D 10 0).toNat m1)) 13 (updZ (D 13) (D 10 0).toNat d_4.1)) 14 (updZ (D 14) (D 10 0).toNat ((10 * d_6.1) + d_7.1))) 15 (updZ (D 15) (D 10 0).toNat u_8.1)) 16 (updZ (D 16) (D 10 0).toNat (-1))) 10 (fun _ => D 10 0 + 1)))]) := hD
                refine tl_some ?_
                refine lv_pop hx hb dX10_readSeal_143 rfl ?_
                exact rw_vret hx hb hr hlocks hP hS (by exact ⟨(u_8.2.2.1, u_8.2.2.2, M 12 + (if ¬ u_8.2.2.2 = 0 ∧ true = false then 1 else 0), u2 (u2 (u2 (u2 (u2 (u2 (u2 D 11 (updZ (D 11) (D 10 0).toNat d_1.1)) 12 (updZ (D 12) (D 10 0).toNat m1)) 13 (updZ (D 13) (D 10 0).toNat d_4.1)) 14 (updZ (D 14) (D 10 0).toNat ((10 * d_6.1) + d_7.1))) 15 (updZ (D 15) (D 10 0).toNat u_8.1)) 16 (updZ (D 16) (D 10 0).toNat (-1))) 10 (fun _ => D 10 0 + 1)), (by rw [uSe, ← hed_1, uSe2, show uCo S (M 9) d_1.2.1 d_1.2.2 = d_4 from (by rw [uCo, if_neg (by omega), ← hed_4]), uSe3, ← hed_6, uSe4, ← hed_7, uSe5, ← heu_8, uSe6, show aSeal D d_1.1 m1 d_4.1 (10 * d_6.1 + d_7.1) u_8.1 = (D 10 0, u2 (u2 (u2 (u2 (u2 (u2 (u2 D 11 (updZ (D 11) (D 10 0).toNat d_1.1)) 12 (updZ (D 12) (D 10 0).toNat m1)) 13 (updZ (D 13) (D 10 0).toNat d_4.1)) 14 (updZ (D 14) (D 10 0).toNat (10 * d_6.1 + d_7.1))) 15 (updZ (D 15) (D 10 0).toNat u_8.1)) 16 (updZ (D 16) (D 10 0).toNat (-1))) 10 (fun _ => D 10 0 + 1)) from (by (have hgg : ¬ u_8.2.2.2 = 0 := (of_decide_eq_true c_15).1); unfold aSeal; rw [if_neg (by omega), if_neg (by omega), if_neg (by omega)])]; exact uFin_t (b := true) (r := (D 10 0, u2 (u2 (u2 (u2 (u2 (u2 (u2 D 11 (updZ (D 11) (D 10 0).toNat d_1.1)) 12 (updZ (D 12) (D 10 0).toNat m1)) 13 (updZ (D 13) (D 10 0).toNat d_4.1)) 14 (updZ (D 14) (D 10 0).toNat (10 * d_6.1 + d_7.1))) 15 (updZ (D 15) (D 10 0).toNat u_8.1)) 16 (updZ (D 16) (D 10 0).toNat (-1))) 10 (fun _ => D 10 0 + 1))) c_15 (by show (0 : Int) ≤ D 10 0; omega)), rfl, rfl⟩) dX10_readSeal_144
      · exact absurd c_5 (by decide)
    · exact absurd c_3 (by decide)
  · have _ := c_2
    refine lv_iconst (v := iI 1) hx hb dX10_readSeal_17 (by decide) ?_
    refine lv_goto (tgt := 22) hx hb dX10_readSeal_18 (by decide) ?_
    refine lv_istore_n (lv' := [(3, Value.int (iI 1)), (2, Value.int (iI d_1.1)), (0, Value.ref (ma 0)), (1, Value.int (iI m1))]) hx hb dX10_readSeal_22 rfl hl (by decide) rfl (fun ls hl => ?_)
    refine lv_iload_n hx hb dX10_readSeal_23 rfl (lv_at hl 0 rfl) ?_
    refine zi_if_eq (tgt := 31) hx hb ⟨by decide, by decide⟩ dX10_readSeal_24 (by decide) (fun c_16 => ?_) (fun c_16 => ?_)
    · exact absurd c_16 (by decide)
    refine lv_iconst (v := iI (-1)) hx hb dX10_readSeal_27 (by decide) ?_
    refine lv_goto (tgt := 38) hx hb dX10_readSeal_28 (by decide) ?_
    refine lv_istore (lv' := [(4, Value.int (iI (-1))), (3, Value.int (iI 1)), (2, Value.int (iI d_1.1)), (0, Value.ref (ma 0)), (1, Value.int (iI m1))]) hx hb dX10_readSeal_38 hl (by decide) rfl (fun ls hl => ?_)
    refine lv_iload_n hx hb dX10_readSeal_40 rfl (lv_at hl 1 rfl) ?_
    refine zi_if_eq (tgt := 49) hx hb ⟨by decide, by decide⟩ dX10_readSeal_41 (by decide) (fun c_17 => ?_) (fun c_17 => ?_)
    · exact absurd c_17 (by decide)
    refine lv_aload_n hx hb dX10_readSeal_44 rfl (lv_at hl 3 rfl) ?_
    refine lv_iconst (v := iI 1) hx hb dX10_readSeal_45 (by decide) ?_
    refine rw_V (As := [Value.int (iI 1)]) (rest := []) ⟨hx, hb, hml, hown, hts⟩ (c_X10_eat l g τ ma (updZ (updZ M 10 d_1.2.1) 11 d_1.2.2) true (by show 0 ≤ d_1.2.2 ∧ d_1.2.2 ≤ 1; omega)) gX10_readSeal_X10_eat cd_X10_eat rfl rfl ⟨rfl, rfl⟩ ⟨Nat.le_of_ble_eq_true rfl, Nat.le_of_ble_eq_true rfl⟩ hK hP hD hS [0] (rfl) (by decide) 0 rfl rfl rfl rfl hl rfl (Nat.le_of_ble_eq_true rfl) dX10_readSeal_46 ⟨Nat.le_of_ble_eq_true rfl, Nat.le_of_ble_eq_true rfl⟩ (fun v w h => by obtain ⟨x9, -, -, rfl⟩ := h; rfl) (fun v w1 H locs hZ hP hD hS => ?_)
    obtain ⟨x_18, hex_18, rfl, rfl⟩ := hZ
    have hP : va_P g vwCl ([moO ma (updZ (updZ M 10 x_18.1) 11 x_18.2), arC (ma 8) (τ 0) 120 S, arC (ma 3) (τ 0) 291 (flR D)]) H := hP
    have hD : va_D A ([moO ma (updZ (updZ M 10 x_18.1) 11 x_18.2), arC (ma 8) (τ 0) 120 S, arC (ma 3) (τ 0) 291 (flR D)]) := hD
    have hex_18 : x_18 = uE d_1.2.1 d_1.2.2 true := hex_18
    have hmx_18 := uE_m d_1.2.1 d_1.2.2 true
    rw [← hex_18] at hmx_18
    have hwx_18 := uE_ok (show PI (M 9) d_1.2.1 d_1.2.2 from ⟨by omega, by omega, by omega, by omega, by omega⟩) (b := true) (fun _ => uH_n (S := S) (by omega))
    rw [← hex_18] at hwx_18
    obtain ⟨hwx_181, hwx_182, hwx_183, hwx_184, hwx_185⟩ := hwx_18
    refine tl_none ?_
    refine lv_bipush (v := iI 10) hx hb dX10_readSeal_49 (by decide) ?_
    refine lv_aload_n hx hb dX10_readSeal_51 rfl (lv_at hl 3 rfl) ?_
    refine lv_iconst (v := iI 0) hx hb dX10_readSeal_52 (by decide) ?_
    refine lv_bipush (v := iI 9) hx hb dX10_readSeal_53 (by decide) ?_
    refine rw_V (As := [Value.int (iI 0), Value.int (iI 9)]) (rest := [Value.int (iI 10)]) ⟨hx, hb, hml, hown, hts⟩ (c_X10_digit l g τ ma (updZ (updZ M 10 x_18.1) 11 x_18.2) S hSB (by show PI (M 9) x_18.1 x_18.2; exact ⟨by omega, by omega, by omega, by omega, by omega⟩) 0 9 (by omega) (by omega)) gX10_readSeal_X10_digit cd_X10_digit rfl rfl ⟨rfl, rfl⟩ ⟨Nat.le_of_ble_eq_true rfl, Nat.le_of_ble_eq_true rfl⟩ hK hP hD hS [0, 1] (rfl) (by decide) 0 rfl rfl rfl rfl hl rfl (Nat.le_of_ble_eq_true rfl) dX10_readSeal_55 ⟨Nat.le_of_ble_eq_true rfl, Nat.le_of_ble_eq_true rfl⟩ (fun v w h => by obtain ⟨x9, -, -, rfl⟩ := h; rfl) (fun v w1 H locs hZ hP hD hS => ?_)
    obtain ⟨d_19, hed_19, rfl, rfl⟩ := hZ
    have hP : va_P g vwCl ([moO ma (updZ (updZ M 10 d_19.2.1) 11 d_19.2.2), arC (ma 8) (τ 0) 120 S, arC (ma 3) (τ 0) 291 (flR D)]) H := hP
    have hD : va_D A ([moO ma (updZ (updZ M 10 d_19.2.1) 11 d_19.2.2), arC (ma 8) (τ 0) 120 S, arC (ma 3) (τ 0) 291 (flR D)]) := hD
    have hed_19 : d_19 = uD S (M 9) x_18.1 x_18.2 0 9 := hed_19
    have hmd_19 := uD_m S (M 9) x_18.1 x_18.2 0 9
    have hod_19 := uD_ok (S := S) (show PI (M 9) x_18.1 x_18.2 from ⟨by omega, by omega, by omega, by omega, by omega⟩) (show 0 ≤ 0 by omega) 9
    rw [← hed_19] at hmd_19 hod_19
    obtain ⟨hod_191, hod_192, hod_193, hod_194, hod_195⟩ := hod_19
    refine tl_some ?_
    refine zi_mul hx hb dX10_readSeal_58 ?_
    refine lv_istore (lv' := [(5, Value.int (iI (10 * d_19.1))), (4, Value.int (iI (-1))), (3, Value.int (iI 1)), (2, Value.int (iI d_1.1)), (0, Value.ref (ma 0)), (1, Value.int (iI m1))]) hx hb dX10_readSeal_59 hl (by decide) rfl (fun ls hl => ?_)
    refine lv_iload hx hb dX10_readSeal_61 (lv_at hl 0 rfl) ?_
    refine lv_aload_n hx hb dX10_readSeal_63 rfl (lv_at hl 4 rfl) ?_
    refine lv_iconst (v := iI 0) hx hb dX10_readSeal_64 (by decide) ?_
    refine lv_bipush (v := iI 9) hx hb dX10_readSeal_65 (by decide) ?_
    refine rw_V (As := [Value.int (iI 0), Value.int (iI 9)]) (rest := [Value.int (iI (10 * d_19.1))]) ⟨hx, hb, hml, hown, hts⟩ (c_X10_digit l g τ ma (updZ (updZ M 10 d_19.2.1) 11 d_19.2.2) S hSB (by show PI (M 9) d_19.2.1 d_19.2.2; exact ⟨by omega, by omega, by omega, by omega, by omega⟩) 0 9 (by omega) (by omega)) gX10_readSeal_X10_digit cd_X10_digit rfl rfl ⟨rfl, rfl⟩ ⟨Nat.le_of_ble_eq_true rfl, Nat.le_of_ble_eq_true rfl⟩ hK hP hD hS [0, 1] (rfl) (by decide) 0 rfl rfl rfl rfl hl rfl (Nat.le_of_ble_eq_true rfl) dX10_readSeal_67 ⟨Nat.le_of_ble_eq_true rfl, Nat.le_of_ble_eq_true rfl⟩ (fun v w h => by obtain ⟨x9, -, -, rfl⟩ := h; rfl) (fun v w1 H locs hZ hP hD hS => ?_)
    obtain ⟨d_20, hed_20, rfl, rfl⟩ := hZ
    have hP : va_P g vwCl ([moO ma (updZ (updZ M 10 d_20.2.1) 11 d_20.2.2), arC (ma 8) (τ 0) 120 S, arC (ma 3) (τ 0) 291 (flR D)]) H := hP
    have hD : va_D A ([moO ma (updZ (updZ M 10 d_20.2.1) 11 d_20.2.2), arC (ma 8) (τ 0) 120 S, arC (ma 3) (τ 0) 291 (flR D)]) := hD
    have hed_20 : d_20 = uD S (M 9) d_19.2.1 d_19.2.2 0 9 := hed_20
    have hmd_20 := uD_m S (M 9) d_19.2.1 d_19.2.2 0 9
    have hod_20 := uD_ok (S := S) (show PI (M 9) d_19.2.1 d_19.2.2 from ⟨by omega, by omega, by omega, by omega, by omega⟩) (show 0 ≤ 0 by omega) 9
    rw [← hed_20] at hmd_20 hod_20
    obtain ⟨hod_201, hod_202, hod_203, hod_204, hod_205⟩ := hod_20
    refine tl_some ?_
    refine zi_add hx hb dX10_readSeal_70 ?_
    refine lv_istore (lv' := [(5, Value.int (iI ((10 * d_19.1) + d_20.1))), (4, Value.int (iI (-1))), (3, Value.int (iI 1)), (2, Value.int (iI d_1.1)), (0, Value.ref (ma 0)), (1, Value.int (iI m1))]) hx hb dX10_readSeal_71 hl (by decide) rfl (fun ls hl => ?_)
    refine lv_aload_n hx hb dX10_readSeal_73 rfl (lv_at hl 4 rfl) ?_
    refine lv_iconst (v := iI 0) hx hb dX10_readSeal_74 (by decide) ?_
    refine lv_iconst (v := iI 3) hx hb dX10_readSeal_75 (by decide) ?_
    refine rw_V (As := [Value.int (iI 0), Value.int (iI 3)]) (rest := []) ⟨hx, hb, hml, hown, hts⟩ (c_X10_ascending l g τ ma (updZ (updZ M 10 d_20.2.1) 11 d_20.2.2) S hSB (by show PI (M 9) d_20.2.1 d_20.2.2; exact ⟨by omega, by omega, by omega, by omega, by omega⟩) 0 3 (by omega) ⟨by omega, by omega, by show ¬ d_20.2.2 = 0 → _; omega⟩) gX10_readSeal_X10_ascending cd_X10_ascending rfl rfl ⟨rfl, rfl⟩ ⟨Nat.le_of_ble_eq_true rfl, Nat.le_of_ble_eq_true rfl⟩ hK hP hD hS [0, 1] (rfl) (by decide) 0 rfl rfl rfl rfl hl rfl (Nat.le_of_ble_eq_true rfl) dX10_readSeal_76 ⟨Nat.le_of_ble_eq_true rfl, Nat.le_of_ble_eq_true rfl⟩ (fun v w h => by obtain ⟨x9, -, -, rfl⟩ := h; rfl) (fun v w1 H locs hZ hP hD hS => ?_)
    obtain ⟨u_21, heu_21, rfl, rfl⟩ := hZ
    have hP : va_P g vwCl ([moO ma (updZ (updZ M 10 u_21.2.2.1) 11 u_21.2.2.2), arC (ma 8) (τ 0) 120 S, arC (ma 3) (τ 0) 291 (flR D)]) H := hP
    have hD : va_D A ([moO ma (updZ (updZ M 10 u_21.2.2.1) 11 u_21.2.2.2), arC (ma 8) (τ 0) 120 S, arC (ma 3) (τ 0) 291 (flR D)]) := hD
    have heu_21 : u_21 = uAs S (M 9) 3 (0, 0, d_20.2.1, d_20.2.2) 122 := heu_21
    have hou_21 := uAs_ok (S := S) (n := (M 9)) (hi := 3) ⟨by omega, by omega⟩ (s0 := (0, 0, d_20.2.1, d_20.2.2)) (uOK_i (by omega) (by omega) (by omega) ⟨by omega, by omega, by omega, by omega, by omega⟩) 122
    have hmu_21 := uAs_m (S := S) (n := (M 9)) (hi := 3) (s0 := (0, 0, d_20.2.1, d_20.2.2)) 122
    rw [← heu_21] at hmu_21 hou_21
    have hmu_21 : ¬ u_21.2.2.2 = 0 → ¬ d_20.2.2 = 0 := hmu_21
    obtain ⟨⟨hou_211, hou_212⟩, hou_213, hou_214, hou_215, hou_216, hou_217, hou_218, hou_219, hou_2110⟩ := hou_21
    refine tl_some ?_
    refine lv_istore (lv' := [(6, Value.int (iI u_21.1)), (5, Value.int (iI ((10 * d_19.1) + d_20.1))), (4, Value.int (iI (-1))), (3, Value.int (iI 1)), (2, Value.int (iI d_1.1)), (0, Value.ref (ma 0)), (1, Value.int (iI m1))]) hx hb dX10_readSeal_79 hl (by decide) rfl (fun ls hl => ?_)
    refine lv_aload_n hx hb dX10_readSeal_81 rfl (lv_at hl 5 rfl) ?_
    refine lv_aload_n hx hb dX10_readSeal_82 rfl (lv_at hl 5 rfl) ?_
    refine va_get (D := g) (ci := 10) (v := Value.ref (ma 3)) (C := RX10) (T := TX10) (N := 18) hx hb hts in_X10_readSeal_X10 hown hK.1 hP 0 (rfl) rfl 3 (by decide) (hts _ (List.mem_of_getElem? (i := 1) rfl) : (Cond.fieldLink RX10 16 "CordSealsModel" "read" "[I").before _ s = true) (fun _ h9 => h9) rfl dX10_readSeal_83 ?_
    refine lv_iload_n hx hb dX10_readSeal_86 rfl (lv_at hl 4 rfl) ?_
    refine ro_S (As := [Value.ref (ma 3), Value.int (iI d_1.1)]) (rest := [Value.ref (ma 0)]) (v := some (Value.int (iI (zB (decide (0 ≤ d_1.1 ∧ d_1.1 ≤ D 4 0 - 1)))))) ⟨hx, hb, hml, hown, hts⟩ (c_X10_hasDie l g τ (ma 3) D hI d_1.1 ⟨by omega, by omega⟩) gX10_readSeal_X10_hasDie cd_X10_hasDie rfl ⟨rfl, rfl⟩ ⟨Nat.le_of_ble_eq_true rfl, Nat.le_of_ble_eq_true rfl⟩ hK (cut_P (is := [2]) hP rfl) rfl hl rfl (Nat.le_of_ble_eq_true rfl) dX10_readSeal_87 ⟨Nat.le_of_ble_eq_true rfl, Nat.le_of_ble_eq_true rfl⟩ ?_
    refine tl_some ?_
    refine zb_if_eq (tgt := 121) hx hb dX10_readSeal_90 (by decide) (fun c_22 => ?_) (fun c_22 => ?_)
    · have cd_c_22 := of_decide_eq_false c_22
      refine lv_iconst (v := iI 0) hx hb dX10_readSeal_121 (by decide) ?_
      refine rw_V (As := [Value.int (iI 0)]) (rest := []) ⟨hx, hb, hml, hown, hts⟩ (c_X10_goes l g τ ma (updZ (updZ M 10 u_21.2.2.1) 11 u_21.2.2.2) false (by show 0 ≤ u_21.2.2.2 ∧ u_21.2.2.2 ≤ 1; omega)) gX10_readSeal_X10_goes cd_X10_goes rfl rfl ⟨rfl, rfl⟩ ⟨Nat.le_of_ble_eq_true rfl, Nat.le_of_ble_eq_true rfl⟩ hK hP hD hS [0] (rfl) (by decide) 0 rfl rfl rfl rfl hl rfl (Nat.le_of_ble_eq_true rfl) dX10_readSeal_122 ⟨Nat.le_of_ble_eq_true rfl, Nat.le_of_ble_eq_true rfl⟩ (fun v w h => by rw [h.2]; rfl) (fun v w1 H locs hZ hP hD hS => ?_)
      obtain ⟨rfl, rfl⟩ := hZ
      have hP : va_P g vwCl ([moO ma (updZ (updZ (updZ M 10 u_21.2.2.1) 11 u_21.2.2.2) 12 (M 12 + (if ¬ u_21.2.2.2 = 0 ∧ false = false then 1 else 0))), arC (ma 8) (τ 0) 120 S, arC (ma 3) (τ 0) 291 (flR D)]) H := hP
      have hD : va_D A ([moO ma (updZ (updZ (updZ M 10 u_21.2.2.1) 11 u_21.2.2.2) 12 (M 12 + (if ¬ u_21.2.2.2 = 0 ∧ false = false then 1 else 0))), arC (ma 8) (τ 0) 120 S, arC (ma 3) (τ 0) 291 (flR D)]) := hD
      refine tl_some ?_
      refine zb_if_eq (tgt := 144) hx hb dX10_readSeal_125 (by decide) (fun c_23 => ?_) (fun c_23 => ?_)
      · have _ := c_23
        exact rw_vret hx hb hr hlocks hP hS (by exact ⟨(u_21.2.2.1, u_21.2.2.2, M 12 + (if ¬ u_21.2.2.2 = 0 ∧ false = false then 1 else 0), D), (by rw [uSe, ← hed_1, uSe2, show uCo S (M 9) d_1.2.1 d_1.2.2 = (-1, x_18) from (by rw [uCo, if_pos (by omega), ← hex_18]), uSe3, ← hed_19, uSe4, ← hed_20, uSe5, ← heu_21, uSe6]; exact uFin_f (b := false) c_23 (fun hg hb9 => by first | exact absurd hb9 (by decide) | (rw [show aSeal D d_1.1 m1 (-1) (10 * d_19.1 + d_20.1) u_21.1 = (-2, D) from (by unfold aSeal; rw [if_pos (by omega)])]; exact ⟨by show (-2 : Int) < 0; decide, rfl⟩) | (rw [show aSeal D d_1.1 m1 (-1) (10 * d_19.1 + d_20.1) u_21.1 = (-3, D) from (by unfold aSeal; rw [if_neg (by omega), if_pos (by omega)])]; exact ⟨by show (-3 : Int) < 0; decide, rfl⟩) | (rw [show aSeal D d_1.1 m1 (-1) (10 * d_19.1 + d_20.1) u_21.1 = (-4, D) from (by unfold aSeal; rw [if_neg (by omega), if_neg (by omega), if_pos (by omega)])]; exact ⟨by show (-4 : Int) < 0; decide, rfl⟩))), rfl, rfl⟩) dX10_readSeal_144
      · exact absurd (of_decide_eq_true c_23).2 (by decide)
    · have cd_c_22 := of_decide_eq_true c_22
      have hdl := hI.ds (d_1.1).toNat (by omega)
      have hpw := pow_r (m := (D 8 (d_1.1).toNat).toNat) (by omega)
      refine lv_aload_n hx hb dX10_readSeal_93 rfl (lv_at hl 5 rfl) ?_
      refine va_get (D := g) (ci := 10) (v := Value.ref (ma 3)) (C := RX10) (T := TX10) (N := 18) hx hb hts in_X10_readSeal_X10 hown hK.1 hP 0 (rfl) rfl 3 (by decide) (hts _ (List.mem_of_getElem? (i := 1) rfl) : (Cond.fieldLink RX10 16 "CordSealsModel" "read" "[I").before _ s = true) (fun _ h9 => h9) rfl dX10_readSeal_94 ?_
      refine lv_iload_n hx hb dX10_readSeal_97 rfl (lv_at hl 4 rfl) ?_
      refine cv_i (y := iI (((d_1.1).toNat : Nat) : Int)) (congrArg iI (by omega)) ?_
      refine lv_iload hx hb dX10_readSeal_98 (lv_at hl 0 rfl) ?_
      refine ro_S (As := [Value.ref (ma 3), Value.int (iI (((d_1.1).toNat : Nat) : Int)), Value.int (iI u_21.1)]) (rest := [Value.ref (ma 0)]) (v := some (Value.int (iI (zB (decide (0 ≤ u_21.1 ∧ u_21.1 ≤ (2 : Int) ^ (D 8 ((d_1.1).toNat)).toNat - 1)))))) ⟨hx, hb, hml, hown, hts⟩ (c_X10_areCracks l g τ (ma 3) D hI ((d_1.1).toNat) (by omega) u_21.1 ⟨by omega, by omega⟩) gX10_readSeal_X10_areCracks cd_X10_areCracks rfl ⟨rfl, rfl⟩ ⟨Nat.le_of_ble_eq_true rfl, Nat.le_of_ble_eq_true rfl⟩ hK (cut_P (is := [2]) hP rfl) rfl hl rfl (Nat.le_of_ble_eq_true rfl) dX10_readSeal_100 ⟨Nat.le_of_ble_eq_true rfl, Nat.le_of_ble_eq_true rfl⟩ ?_
      refine tl_some ?_
      refine zb_if_eq (tgt := 121) hx hb dX10_readSeal_103 (by decide) (fun c_24 => ?_) (fun c_24 => ?_)
      · have cd_c_24 := of_decide_eq_false c_24
        refine lv_iconst (v := iI 0) hx hb dX10_readSeal_121 (by decide) ?_
        refine rw_V (As := [Value.int (iI 0)]) (rest := []) ⟨hx, hb, hml, hown, hts⟩ (c_X10_goes l g τ ma (updZ (updZ M 10 u_21.2.2.1) 11 u_21.2.2.2) false (by show 0 ≤ u_21.2.2.2 ∧ u_21.2.2.2 ≤ 1; omega)) gX10_readSeal_X10_goes cd_X10_goes rfl rfl ⟨rfl, rfl⟩ ⟨Nat.le_of_ble_eq_true rfl, Nat.le_of_ble_eq_true rfl⟩ hK hP hD hS [0] (rfl) (by decide) 0 rfl rfl rfl rfl hl rfl (Nat.le_of_ble_eq_true rfl) dX10_readSeal_122 ⟨Nat.le_of_ble_eq_true rfl, Nat.le_of_ble_eq_true rfl⟩ (fun v w h => by rw [h.2]; rfl) (fun v w1 H locs hZ hP hD hS => ?_)
        obtain ⟨rfl, rfl⟩ := hZ
        have hP : va_P g vwCl ([moO ma (updZ (updZ (updZ M 10 u_21.2.2.1) 11 u_21.2.2.2) 12 (M 12 + (if ¬ u_21.2.2.2 = 0 ∧ false = false then 1 else 0))), arC (ma 8) (τ 0) 120 S, arC (ma 3) (τ 0) 291 (flR D)]) H := hP
        have hD : va_D A ([moO ma (updZ (updZ (updZ M 10 u_21.2.2.1) 11 u_21.2.2.2) 12 (M 12 + (if ¬ u_21.2.2.2 = 0 ∧ false = false then 1 else 0))), arC (ma 8) (τ 0) 120 S, arC (ma 3) (τ 0) 291 (flR D)]) := hD
        refine tl_some ?_
        refine zb_if_eq (tgt := 144) hx hb dX10_readSeal_125 (by decide) (fun c_25 => ?_) (fun c_25 => ?_)
        · have _ := c_25
          exact rw_vret hx hb hr hlocks hP hS (by exact ⟨(u_21.2.2.1, u_21.2.2.2, M 12 + (if ¬ u_21.2.2.2 = 0 ∧ false = false then 1 else 0), D), (by rw [uSe, ← hed_1, uSe2, show uCo S (M 9) d_1.2.1 d_1.2.2 = (-1, x_18) from (by rw [uCo, if_pos (by omega), ← hex_18]), uSe3, ← hed_19, uSe4, ← hed_20, uSe5, ← heu_21, uSe6]; exact uFin_f (b := false) c_25 (fun hg hb9 => by first | exact absurd hb9 (by decide) | (rw [show aSeal D d_1.1 m1 (-1) (10 * d_19.1 + d_20.1) u_21.1 = (-2, D) from (by unfold aSeal; rw [if_pos (by omega)])]; exact ⟨by show (-2 : Int) < 0; decide, rfl⟩) | (rw [show aSeal D d_1.1 m1 (-1) (10 * d_19.1 + d_20.1) u_21.1 = (-3, D) from (by unfold aSeal; rw [if_neg (by omega), if_pos (by omega)])]; exact ⟨by show (-3 : Int) < 0; decide, rfl⟩) | (rw [show aSeal D d_1.1 m1 (-1) (10 * d_19.1 + d_20.1) u_21.1 = (-4, D) from (by unfold aSeal; rw [if_neg (by omega), if_neg (by omega), if_pos (by omega)])]; exact ⟨by show (-4 : Int) < 0; decide, rfl⟩))), rfl, rfl⟩) dX10_readSeal_144
        · exact absurd (of_decide_eq_true c_25).2 (by decide)
      · have cd_c_24 := of_decide_eq_true c_24
        refine lv_aload_n hx hb dX10_readSeal_106 rfl (lv_at hl 5 rfl) ?_
        refine va_get (D := g) (ci := 10) (v := Value.ref (ma 3)) (C := RX10) (T := TX10) (N := 18) hx hb hts in_X10_readSeal_X10 hown hK.1 hP 0 (rfl) rfl 3 (by decide) (hts _ (List.mem_of_getElem? (i := 1) rfl) : (Cond.fieldLink RX10 16 "CordSealsModel" "read" "[I").before _ s = true) (fun _ h9 => h9) rfl dX10_readSeal_107 ?_
        refine lv_iconst (v := iI 2) hx hb dX10_readSeal_110 (by decide) ?_
        refine zf_ald hx hb hK hP 2 (f := flR D) rfl (2) (rfl) (by omega) (by decide) (z := D 10 0) (fl_10) dX10_readSeal_111 ?_
        refine lv_bipush (v := iI 24) hx hb dX10_readSeal_112 (by decide) ?_
        refine zi_icmp_ge (tgt := 121) hx hb ⟨by omega, by omega⟩ ⟨by decide, by decide⟩ dX10_readSeal_114 (by decide) (fun c_26 => ?_) (fun c_26 => ?_)
        · have _ := c_26
          refine lv_iconst (v := iI 0) hx hb dX10_readSeal_121 (by decide) ?_
          refine rw_V (As := [Value.int (iI 0)]) (rest := []) ⟨hx, hb, hml, hown, hts⟩ (c_X10_goes l g τ ma (updZ (updZ M 10 u_21.2.2.1) 11 u_21.2.2.2) false (by show 0 ≤ u_21.2.2.2 ∧ u_21.2.2.2 ≤ 1; omega)) gX10_readSeal_X10_goes cd_X10_goes rfl rfl ⟨rfl, rfl⟩ ⟨Nat.le_of_ble_eq_true rfl, Nat.le_of_ble_eq_true rfl⟩ hK hP hD hS [0] (rfl) (by decide) 0 rfl rfl rfl rfl hl rfl (Nat.le_of_ble_eq_true rfl) dX10_readSeal_122 ⟨Nat.le_of_ble_eq_true rfl, Nat.le_of_ble_eq_true rfl⟩ (fun v w h => by rw [h.2]; rfl) (fun v w1 H locs hZ hP hD hS => ?_)
          obtain ⟨rfl, rfl⟩ := hZ
          have hP : va_P g vwCl ([moO ma (updZ (updZ (updZ M 10 u_21.2.2.1) 11 u_21.2.2.2) 12 (M 12 + (if ¬ u_21.2.2.2 = 0 ∧ false = false then 1 else 0))), arC (ma 8) (τ 0) 120 S, arC (ma 3) (τ 0) 291 (flR D)]) H := hP
          have hD : va_D A ([moO ma (updZ (updZ (updZ M 10 u_21.2.2.1) 11 u_21.2.2.2) 12 (M 12 + (if ¬ u_21.2.2.2 = 0 ∧ false = false then 1 else 0))), arC (ma 8) (τ 0) 120 S, arC (ma 3) (τ 0) 291 (flR D)]) := hD
          refine tl_some ?_
          refine zb_if_eq (tgt := 144) hx hb dX10_readSeal_125 (by decide) (fun c_27 => ?_) (fun c_27 => ?_)
          · have _ := c_27
            exact rw_vret hx hb hr hlocks hP hS (by exact ⟨(u_21.2.2.1, u_21.2.2.2, M 12 + (if ¬ u_21.2.2.2 = 0 ∧ false = false then 1 else 0), D), (by rw [uSe, ← hed_1, uSe2, show uCo S (M 9) d_1.2.1 d_1.2.2 = (-1, x_18) from (by rw [uCo, if_pos (by omega), ← hex_18]), uSe3, ← hed_19, uSe4, ← hed_20, uSe5, ← heu_21, uSe6]; exact uFin_f (b := false) c_27 (fun hg hb9 => by first | exact absurd hb9 (by decide) | (rw [show aSeal D d_1.1 m1 (-1) (10 * d_19.1 + d_20.1) u_21.1 = (-2, D) from (by unfold aSeal; rw [if_pos (by omega)])]; exact ⟨by show (-2 : Int) < 0; decide, rfl⟩) | (rw [show aSeal D d_1.1 m1 (-1) (10 * d_19.1 + d_20.1) u_21.1 = (-3, D) from (by unfold aSeal; rw [if_neg (by omega), if_pos (by omega)])]; exact ⟨by show (-3 : Int) < 0; decide, rfl⟩) | (rw [show aSeal D d_1.1 m1 (-1) (10 * d_19.1 + d_20.1) u_21.1 = (-4, D) from (by unfold aSeal; rw [if_neg (by omega), if_neg (by omega), if_pos (by omega)])]; exact ⟨by show (-4 : Int) < 0; decide, rfl⟩))), rfl, rfl⟩) dX10_readSeal_144
          · exact absurd (of_decide_eq_true c_27).2 (by decide)
        · have _ := c_26
          refine lv_iconst (v := iI 1) hx hb dX10_readSeal_117 (by decide) ?_
          refine lv_goto (tgt := 122) hx hb dX10_readSeal_118 (by decide) ?_
          refine rw_V (As := [Value.int (iI 1)]) (rest := []) ⟨hx, hb, hml, hown, hts⟩ (c_X10_goes l g τ ma (updZ (updZ M 10 u_21.2.2.1) 11 u_21.2.2.2) true (by show 0 ≤ u_21.2.2.2 ∧ u_21.2.2.2 ≤ 1; omega)) gX10_readSeal_X10_goes cd_X10_goes rfl rfl ⟨rfl, rfl⟩ ⟨Nat.le_of_ble_eq_true rfl, Nat.le_of_ble_eq_true rfl⟩ hK hP hD hS [0] (rfl) (by decide) 0 rfl rfl rfl rfl hl rfl (Nat.le_of_ble_eq_true rfl) dX10_readSeal_122 ⟨Nat.le_of_ble_eq_true rfl, Nat.le_of_ble_eq_true rfl⟩ (fun v w h => by rw [h.2]; rfl) (fun v w1 H locs hZ hP hD hS => ?_)
          obtain ⟨rfl, rfl⟩ := hZ
          have hP : va_P g vwCl ([moO ma (updZ (updZ (updZ M 10 u_21.2.2.1) 11 u_21.2.2.2) 12 (M 12 + (if ¬ u_21.2.2.2 = 0 ∧ true = false then 1 else 0))), arC (ma 8) (τ 0) 120 S, arC (ma 3) (τ 0) 291 (flR D)]) H := hP
          have hD : va_D A ([moO ma (updZ (updZ (updZ M 10 u_21.2.2.1) 11 u_21.2.2.2) 12 (M 12 + (if ¬ u_21.2.2.2 = 0 ∧ true = false then 1 else 0))), arC (ma 8) (τ 0) 120 S, arC (ma 3) (τ 0) 291 (flR D)]) := hD
          refine tl_some ?_
          refine zb_if_eq (tgt := 144) hx hb dX10_readSeal_125 (by decide) (fun c_28 => ?_) (fun c_28 => ?_)
          · have _ := c_28
            exact rw_vret hx hb hr hlocks hP hS (by exact ⟨(u_21.2.2.1, u_21.2.2.2, M 12 + (if ¬ u_21.2.2.2 = 0 ∧ true = false then 1 else 0), D), (by rw [uSe, ← hed_1, uSe2, show uCo S (M 9) d_1.2.1 d_1.2.2 = (-1, x_18) from (by rw [uCo, if_pos (by omega), ← hex_18]), uSe3, ← hed_19, uSe4, ← hed_20, uSe5, ← heu_21, uSe6]; exact uFin_f (b := true) c_28 (fun hg hb9 => by first | exact absurd hb9 (by decide) | (rw [show aSeal D d_1.1 m1 (-1) (10 * d_19.1 + d_20.1) u_21.1 = (-2, D) from (by unfold aSeal; rw [if_pos (by omega)])]; exact ⟨by show (-2 : Int) < 0; decide, rfl⟩) | (rw [show aSeal D d_1.1 m1 (-1) (10 * d_19.1 + d_20.1) u_21.1 = (-3, D) from (by unfold aSeal; rw [if_neg (by omega), if_pos (by omega)])]; exact ⟨by show (-3 : Int) < 0; decide, rfl⟩) | (rw [show aSeal D d_1.1 m1 (-1) (10 * d_19.1 + d_20.1) u_21.1 = (-4, D) from (by unfold aSeal; rw [if_neg (by omega), if_neg (by omega), if_pos (by omega)])]; exact ⟨by show (-4 : Int) < 0; decide, rfl⟩))), rfl, rfl⟩) dX10_readSeal_144
          · have _ := c_28
            refine lv_aload_n hx hb dX10_readSeal_128 rfl (lv_at hl 5 rfl) ?_
            refine va_get (D := g) (ci := 10) (v := Value.ref (ma 3)) (C := RX10) (T := TX10) (N := 18) hx hb hts in_X10_readSeal_X10 hown hK.1 hP 0 (rfl) rfl 3 (by decide) (hts _ (List.mem_of_getElem? (i := 1) rfl) : (Cond.fieldLink RX10 16 "CordSealsModel" "read" "[I").before _ s = true) (fun _ h9 => h9) rfl dX10_readSeal_129 ?_
            refine lv_iload_n hx hb dX10_readSeal_132 rfl (lv_at hl 4 rfl) ?_
            refine lv_iload_n hx hb dX10_readSeal_133 rfl (lv_at hl 6 rfl) ?_
            refine lv_iload hx hb dX10_readSeal_134 (lv_at hl 2 rfl) ?_
            refine lv_iload hx hb dX10_readSeal_136 (lv_at hl 1 rfl) ?_
            refine lv_iload hx hb dX10_readSeal_138 (lv_at hl 0 rfl) ?_
            refine rw_S (As := [Value.ref (ma 3), Value.int (iI d_1.1), Value.int (iI m1), Value.int (iI (-1)), Value.int (iI ((10 * d_19.1) + d_20.1)), Value.int (iI u_21.1)]) (rest := []) ⟨hx, hb, hml, hown, hts⟩ (c_X10_goSeal l g τ (ma 3) D hI d_1.1 ⟨by omega, by omega⟩ m1 ⟨by omega, by omega⟩ (-1) ⟨by omega, by omega⟩ ((10 * d_19.1) + d_20.1) ⟨by omega, by omega⟩ u_21.1 ⟨by omega, by omega⟩ (by omega)) gX10_readSeal_X10_goSeal cd_X10_goSeal rfl ⟨rfl, rfl⟩ ⟨Nat.le_of_ble_eq_true rfl, Nat.le_of_ble_eq_true rfl⟩ hK hP hD hS [2] (rfl) (by decide) rfl hl rfl (Nat.le_of_ble_eq_true rfl) dX10_readSeal_140 ⟨Nat.le_of_ble_eq_true rfl, Nat.le_of_ble_eq_true rfl⟩ (fun v w h => by rw [h.2]; exact f_fl _ _ _ _) (fun v w1 H locs hZ hP hD hS => ?_)
            obtain ⟨rfl, rfl⟩ := hZ
            have hP : va_P g vwCl ([moO ma (updZ (updZ (updZ M 10 u_21.2.2.1) 11 u_21.2.2.2) 12 (M 12 + (if ¬ u_21.2.2.2 = 0 ∧ true = false then 1 else 0))), arC (ma 8) (τ 0) 120 S, arC (ma 3) (τ 0) 291 (flR (u2 (u2 (u2 (u2 (u2 (u2 (u2 D 11 (updZ (D 11) (D 10 0).toNat d_1.1)) 12 (updZ (D 12) (D 10 0).toNat m1)) 13 (updZ (D 13) (D 10 0).toNat (-1))) 14 (updZ (D 14) (D 10 0).toNat ((10 * d_19.1) + d_20.1))) 15 (updZ (D 15) (D 10 0).toNat u_21.1)) 16 (updZ (D 16) (D 10 0).toNat (-1))) 10 (fun _ => D 10 0 + 1)))]) H := hP
            have hD : va_D A ([moO ma (updZ (updZ (updZ M 10 u_21.2.2.1) 11 u_21.2.2.2) 12 (M 12 + (if ¬ u_21.2.2.2 = 0 ∧ true = false then 1 else 0))), arC (ma 8) (τ 0) 120 S, arC (ma 3) (τ 0) 291 (flR (u2 (u2 (u2 (u2 (u2 (u2 (u2 D 11 (updZ (D 11) (D 10 0).toNat d_1.1)) 12 (updZ (D 12) (D 10 0).toNat m1)) 13 (updZ (D 13) (D 10 0).toNat (-1))) 14 (updZ (D 14) (D 10 0).toNat ((10 * d_19.1) + d_20.1))) 15 (updZ (D 15) (D 10 0).toNat u_21.1)) 16 (updZ (D 16) (D 10 0).toNat (-1))) 10 (fun _ => D 10 0 + 1)))]) := hD
            refine tl_some ?_
            refine lv_pop hx hb dX10_readSeal_143 rfl ?_
            exact rw_vret hx hb hr hlocks hP hS (by exact ⟨(u_21.2.2.1, u_21.2.2.2, M 12 + (if ¬ u_21.2.2.2 = 0 ∧ true = false then 1 else 0), u2 (u2 (u2 (u2 (u2 (u2 (u2 D 11 (updZ (D 11) (D 10 0).toNat d_1.1)) 12 (updZ (D 12) (D 10 0).toNat m1)) 13 (updZ (D 13) (D 10 0).toNat (-1))) 14 (updZ (D 14) (D 10 0).toNat ((10 * d_19.1) + d_20.1))) 15 (updZ (D 15) (D 10 0).toNat u_21.1)) 16 (updZ (D 16) (D 10 0).toNat (-1))) 10 (fun _ => D 10 0 + 1)), (by rw [uSe, ← hed_1, uSe2, show uCo S (M 9) d_1.2.1 d_1.2.2 = (-1, x_18) from (by rw [uCo, if_pos (by omega), ← hex_18]), uSe3, ← hed_19, uSe4, ← hed_20, uSe5, ← heu_21, uSe6, show aSeal D d_1.1 m1 (-1) (10 * d_19.1 + d_20.1) u_21.1 = (D 10 0, u2 (u2 (u2 (u2 (u2 (u2 (u2 D 11 (updZ (D 11) (D 10 0).toNat d_1.1)) 12 (updZ (D 12) (D 10 0).toNat m1)) 13 (updZ (D 13) (D 10 0).toNat (-1))) 14 (updZ (D 14) (D 10 0).toNat (10 * d_19.1 + d_20.1))) 15 (updZ (D 15) (D 10 0).toNat u_21.1)) 16 (updZ (D 16) (D 10 0).toNat (-1))) 10 (fun _ => D 10 0 + 1)) from (by (have hgg : ¬ u_21.2.2.2 = 0 := (of_decide_eq_true c_28).1); unfold aSeal; rw [if_neg (by omega), if_neg (by omega), if_neg (by omega)])]; exact uFin_t (b := true) (r := (D 10 0, u2 (u2 (u2 (u2 (u2 (u2 (u2 D 11 (updZ (D 11) (D 10 0).toNat d_1.1)) 12 (updZ (D 12) (D 10 0).toNat m1)) 13 (updZ (D 13) (D 10 0).toNat (-1))) 14 (updZ (D 14) (D 10 0).toNat (10 * d_19.1 + d_20.1))) 15 (updZ (D 15) (D 10 0).toNat u_21.1)) 16 (updZ (D 16) (D 10 0).toNat (-1))) 10 (fun _ => D 10 0 + 1))) c_28 (by show (0 : Int) ≤ D 10 0; omega)), rfl, rfl⟩) dX10_readSeal_144

theorem cd_X10_readHang : cd yX10_readHang 0 := by decide +kernel
theorem in_X10_readHang_X10 : ∀ w ∈ wsX100, w ∈ wsX10_readHang := by decide +kernel
set_option maxHeartbeats 4000000 in
set_option maxRecDepth 100000 in
theorem c_X10_readHang (l : Launch) (g : va_G) (τ : Nat → ClassId) (ma : Nat → Nat) (M : Nat → Int) (S : Nat → Int) (hSB : SB S) (hPI : PI (M 9) (M 10) (M 11)) (D : Nat → Nat → Int) (hI : SI D)  : Met l yX10_readHang wsX10_readHang { frames := 2, cells := 0, slots := 0, locals := 48 } (va_Pc [Value.ref (ma 0)] (rwW g τ ([moO ma M, arC (ma 8) (τ 0) 120 S, arC (ma 3) (τ 0) 291 (flR D)]))) (rwQ g (fun v w => ∃ r : Int × Int × Int × (Nat → Nat → Int), r = uHa S (M 9) (M 10) (M 11) (M 12) D ∧ v = none ∧ w = [moO ma (updZ (updZ (updZ M 10 r.1) 11 r.2.1) 12 r.2.2.1), arC (ma 8) (τ 0) 120 S, arC (ma 3) (τ 0) 291 (flR r.2.2.2)]) (inW ([moO ma M, arC (ma 8) (τ 0) 120 S, arC (ma 3) (τ 0) 291 (flR D)]))) 0 0 (inW ([moO ma M, arC (ma 8) (τ 0) 120 S, arC (ma 3) (τ 0) 291 (flR D)])) := by
  obtain ⟨hpi1, hpi2, hpi3, hpi4, hpi5⟩ := id hPI
  have hD0 := hI.d
  have hR0 := hI.r
  have hS0 := hI.s
  refine rwMet (cc := cX10_readHang) (maxL := 4) (ret := none) (lv := [(0, Value.ref (ma 0))]) (by decide) rfl (Nat.le_of_ble_eq_true rfl) rfl ?_
  intro p e s m below meth c hx hb hr hml hts hown hlocks A H hP hD hS hK ls hl
  refine lv_aload_n hx hb dX10_readHang_0 rfl (lv_at hl 0 rfl) ?_
  refine lv_iconst (v := iI 0) hx hb dX10_readHang_1 (by decide) ?_
  refine lv_iconst (v := iI 2) hx hb dX10_readHang_2 (by decide) ?_
  refine rw_V (As := [Value.int (iI 0), Value.int (iI 2)]) (rest := []) ⟨hx, hb, hml, hown, hts⟩ (c_X10_digit l g τ ma M S hSB (by show PI (M 9) (M 10) (M 11); exact ⟨by omega, by omega, by omega, by omega, by omega⟩) 0 2 (by omega) (by omega)) gX10_readHang_X10_digit cd_X10_digit rfl rfl ⟨rfl, rfl⟩ ⟨Nat.le_of_ble_eq_true rfl, Nat.le_of_ble_eq_true rfl⟩ hK hP hD hS [0, 1] (rfl) (by decide) 0 rfl rfl rfl rfl hl rfl (Nat.le_of_ble_eq_true rfl) dX10_readHang_3 ⟨Nat.le_of_ble_eq_true rfl, Nat.le_of_ble_eq_true rfl⟩ (fun v w h => by obtain ⟨x9, -, -, rfl⟩ := h; rfl) (fun v w1 H locs hZ hP hD hS => ?_)
  obtain ⟨d_1, hed_1, rfl, rfl⟩ := hZ
  have hP : va_P g vwCl ([moO ma (updZ (updZ M 10 d_1.2.1) 11 d_1.2.2), arC (ma 8) (τ 0) 120 S, arC (ma 3) (τ 0) 291 (flR D)]) H := hP
  have hD : va_D A ([moO ma (updZ (updZ M 10 d_1.2.1) 11 d_1.2.2), arC (ma 8) (τ 0) 120 S, arC (ma 3) (τ 0) 291 (flR D)]) := hD
  have hed_1 : d_1 = uD S (M 9) (M 10) (M 11) 0 2 := hed_1
  have hmd_1 := uD_m S (M 9) (M 10) (M 11) 0 2
  have hod_1 := uD_ok (S := S) (show PI (M 9) (M 10) (M 11) from ⟨by omega, by omega, by omega, by omega, by omega⟩) (show 0 ≤ 0 by omega) 2
  rw [← hed_1] at hmd_1 hod_1
  obtain ⟨hod_11, hod_12, hod_13, hod_14, hod_15⟩ := hod_1
  refine tl_some ?_
  refine lv_istore_n (lv' := [(1, Value.int (iI d_1.1)), (0, Value.ref (ma 0))]) hx hb dX10_readHang_6 rfl hl (by decide) rfl (fun ls hl => ?_)
  refine lv_bipush (v := iI 10) hx hb dX10_readHang_7 (by decide) ?_
  refine lv_iload_n hx hb dX10_readHang_9 rfl (lv_at hl 0 rfl) ?_
  refine zi_mul hx hb dX10_readHang_10 ?_
  refine lv_aload_n hx hb dX10_readHang_11 rfl (lv_at hl 1 rfl) ?_
  refine lv_iconst (v := iI 0) hx hb dX10_readHang_12 (by decide) ?_
  refine jn (F0 m 24 ls (Value.int (iI (if d_1.1 = 2 then 3 else 9)) :: Value.int (iI 0) :: Value.ref (ma 0) :: Value.int (iI (10 * d_1.1)) :: [])) ?_ (fun K => ?_)
  · skip
    refine rw_V (As := [Value.int (iI 0), Value.int (iI (if d_1.1 = 2 then 3 else 9))]) (rest := [Value.int (iI (10 * d_1.1))]) ⟨hx, hb, hml, hown, hts⟩ (c_X10_digit l g τ ma (updZ (updZ M 10 d_1.2.1) 11 d_1.2.2) S hSB (by show PI (M 9) d_1.2.1 d_1.2.2; exact ⟨by omega, by omega, by omega, by omega, by omega⟩) 0 (if d_1.1 = 2 then 3 else 9) (by omega) (by omega)) gX10_readHang_X10_digit cd_X10_digit rfl rfl ⟨rfl, rfl⟩ ⟨Nat.le_of_ble_eq_true rfl, Nat.le_of_ble_eq_true rfl⟩ hK hP hD hS [0, 1] (rfl) (by decide) 0 rfl rfl rfl rfl hl rfl (Nat.le_of_ble_eq_true rfl) dX10_readHang_24 ⟨Nat.le_of_ble_eq_true rfl, Nat.le_of_ble_eq_true rfl⟩ (fun v w h => by obtain ⟨x9, -, -, rfl⟩ := h; rfl) (fun v w1 H locs hZ hP hD hS => ?_)
    obtain ⟨d_2, hed_2, rfl, rfl⟩ := hZ
    have hP : va_P g vwCl ([moO ma (updZ (updZ M 10 d_2.2.1) 11 d_2.2.2), arC (ma 8) (τ 0) 120 S, arC (ma 3) (τ 0) 291 (flR D)]) H := hP
    have hD : va_D A ([moO ma (updZ (updZ M 10 d_2.2.1) 11 d_2.2.2), arC (ma 8) (τ 0) 120 S, arC (ma 3) (τ 0) 291 (flR D)]) := hD
    have hed_2 : d_2 = uD S (M 9) d_1.2.1 d_1.2.2 0 (if d_1.1 = 2 then 3 else 9) := hed_2
    have hmd_2 := uD_m S (M 9) d_1.2.1 d_1.2.2 0 (if d_1.1 = 2 then 3 else 9)
    have hod_2 := uD_ok (S := S) (show PI (M 9) d_1.2.1 d_1.2.2 from ⟨by omega, by omega, by omega, by omega, by omega⟩) (show 0 ≤ 0 by omega) (if d_1.1 = 2 then 3 else 9)
    rw [← hed_2] at hmd_2 hod_2
    obtain ⟨hod_21, hod_22, hod_23, hod_24, hod_25⟩ := hod_2
    refine tl_some ?_
    refine zi_add hx hb dX10_readHang_27 ?_
    refine lv_istore_n (lv' := [(2, Value.int (iI ((10 * d_1.1) + d_2.1))), (1, Value.int (iI d_1.1)), (0, Value.ref (ma 0))]) hx hb dX10_readHang_28 rfl hl (by decide) rfl (fun ls hl => ?_)
    refine lv_aload_n hx hb dX10_readHang_29 rfl (lv_at hl 2 rfl) ?_
    refine lv_iconst (v := iI 0) hx hb dX10_readHang_30 (by decide) ?_
    refine lv_iconst (v := iI 5) hx hb dX10_readHang_31 (by decide) ?_
    refine rw_V (As := [Value.int (iI 0), Value.int (iI 5)]) (rest := []) ⟨hx, hb, hml, hown, hts⟩ (c_X10_digit l g τ ma (updZ (updZ M 10 d_2.2.1) 11 d_2.2.2) S hSB (by show PI (M 9) d_2.2.1 d_2.2.2; exact ⟨by omega, by omega, by omega, by omega, by omega⟩) 0 5 (by omega) (by omega)) gX10_readHang_X10_digit cd_X10_digit rfl rfl ⟨rfl, rfl⟩ ⟨Nat.le_of_ble_eq_true rfl, Nat.le_of_ble_eq_true rfl⟩ hK hP hD hS [0, 1] (rfl) (by decide) 0 rfl rfl rfl rfl hl rfl (Nat.le_of_ble_eq_true rfl) dX10_readHang_32 ⟨Nat.le_of_ble_eq_true rfl, Nat.le_of_ble_eq_true rfl⟩ (fun v w h => by obtain ⟨x9, -, -, rfl⟩ := h; rfl) (fun v w1 H locs hZ hP hD hS => ?_)
    obtain ⟨d_3, hed_3, rfl, rfl⟩ := hZ
    have hP : va_P g vwCl ([moO ma (updZ (updZ M 10 d_3.2.1) 11 d_3.2.2), arC (ma 8) (τ 0) 120 S, arC (ma 3) (τ 0) 291 (flR D)]) H := hP
    have hD : va_D A ([moO ma (updZ (updZ M 10 d_3.2.1) 11 d_3.2.2), arC (ma 8) (τ 0) 120 S, arC (ma 3) (τ 0) 291 (flR D)]) := hD
    have hed_3 : d_3 = uD S (M 9) d_2.2.1 d_2.2.2 0 5 := hed_3
    have hmd_3 := uD_m S (M 9) d_2.2.1 d_2.2.2 0 5
    have hod_3 := uD_ok (S := S) (show PI (M 9) d_2.2.1 d_2.2.2 from ⟨by omega, by omega, by omega, by omega, by omega⟩) (show 0 ≤ 0 by omega) 5
    rw [← hed_3] at hmd_3 hod_3
    obtain ⟨hod_31, hod_32, hod_33, hod_34, hod_35⟩ := hod_3
    refine tl_some ?_
    refine lv_istore_n (lv' := [(3, Value.int (iI d_3.1)), (2, Value.int (iI ((10 * d_1.1) + d_2.1))), (1, Value.int (iI d_1.1)), (0, Value.ref (ma 0))]) hx hb dX10_readHang_35 rfl hl (by decide) rfl (fun ls hl => ?_)
    refine lv_aload_n hx hb dX10_readHang_36 rfl (lv_at hl 3 rfl) ?_
    refine rw_V (As := []) (rest := []) ⟨hx, hb, hml, hown, hts⟩ (c_X10_end l g τ ma (updZ (updZ M 10 d_3.2.1) 11 d_3.2.2) S hSB (by show PI (M 9) d_3.2.1 d_3.2.2; exact ⟨by omega, by omega, by omega, by omega, by omega⟩)) gX10_readHang_X10_end cd_X10_end rfl rfl ⟨rfl, rfl⟩ ⟨Nat.le_of_ble_eq_true rfl, Nat.le_of_ble_eq_true rfl⟩ hK hP hD hS [0, 1] (rfl) (by decide) 0 rfl rfl rfl rfl hl rfl (Nat.le_of_ble_eq_true rfl) dX10_readHang_37 ⟨Nat.le_of_ble_eq_true rfl, Nat.le_of_ble_eq_true rfl⟩ (fun v w h => by rw [h.2]; rfl) (fun v w1 H locs hZ hP hD hS => ?_)
    obtain ⟨rfl, rfl⟩ := hZ
    have hP : va_P g vwCl ([moO ma (updZ (updZ M 10 d_3.2.1) 11 (uEnd S (M 9) d_3.2.1 d_3.2.2)), arC (ma 8) (τ 0) 120 S, arC (ma 3) (τ 0) 291 (flR D)]) H := hP
    have hD : va_D A ([moO ma (updZ (updZ M 10 d_3.2.1) 11 (uEnd S (M 9) d_3.2.1 d_3.2.2)), arC (ma 8) (τ 0) 120 S, arC (ma 3) (τ 0) 291 (flR D)]) := hD
    have hen := uEnd_m S (M 9) d_3.2.1 d_3.2.2
    refine tl_none ?_
    refine lv_aload_n hx hb dX10_readHang_40 rfl (lv_at hl 3 rfl) ?_
    refine lv_aload_n hx hb dX10_readHang_41 rfl (lv_at hl 3 rfl) ?_
    refine va_get (D := g) (ci := 10) (v := Value.ref (ma 3)) (C := RX10) (T := TX10) (N := 18) hx hb hts in_X10_readHang_X10 hown hK.1 hP 0 (rfl) rfl 3 (by decide) (hts _ (List.mem_of_getElem? (i := 1) rfl) : (Cond.fieldLink RX10 16 "CordSealsModel" "read" "[I").before _ s = true) (fun _ h9 => h9) rfl dX10_readHang_42 ?_
    refine lv_iload_n hx hb dX10_readHang_45 rfl (lv_at hl 1 rfl) ?_
    refine ro_S (As := [Value.ref (ma 3), Value.int (iI ((10 * d_1.1) + d_2.1))]) (rest := [Value.ref (ma 0)]) (v := some (Value.int (iI (zB (decide (0 ≤ (10 * d_1.1) + d_2.1 ∧ (10 * d_1.1) + d_2.1 ≤ D 10 0 - 1)))))) ⟨hx, hb, hml, hown, hts⟩ (c_X10_hasSeal l g τ (ma 3) D hI ((10 * d_1.1) + d_2.1) ⟨by omega, by omega⟩) gX10_readHang_X10_hasSeal cd_X10_hasSeal rfl ⟨rfl, rfl⟩ ⟨Nat.le_of_ble_eq_true rfl, Nat.le_of_ble_eq_true rfl⟩ hK (cut_P (is := [2]) hP rfl) rfl hl rfl (Nat.le_of_ble_eq_true rfl) dX10_readHang_46 ⟨Nat.le_of_ble_eq_true rfl, Nat.le_of_ble_eq_true rfl⟩ ?_
    refine tl_some ?_
    refine rw_V (As := [Value.int (iI (zB (decide (0 ≤ (10 * d_1.1) + d_2.1 ∧ (10 * d_1.1) + d_2.1 ≤ D 10 0 - 1))))]) (rest := []) ⟨hx, hb, hml, hown, hts⟩ (c_X10_goes l g τ ma (updZ (updZ M 10 d_3.2.1) 11 (uEnd S (M 9) d_3.2.1 d_3.2.2)) (decide (0 ≤ (10 * d_1.1) + d_2.1 ∧ (10 * d_1.1) + d_2.1 ≤ D 10 0 - 1)) (by show 0 ≤ uEnd S (M 9) d_3.2.1 d_3.2.2 ∧ uEnd S (M 9) d_3.2.1 d_3.2.2 ≤ 1; omega)) gX10_readHang_X10_goes cd_X10_goes rfl rfl ⟨rfl, rfl⟩ ⟨Nat.le_of_ble_eq_true rfl, Nat.le_of_ble_eq_true rfl⟩ hK hP hD hS [0] (rfl) (by decide) 0 rfl rfl rfl rfl hl rfl (Nat.le_of_ble_eq_true rfl) dX10_readHang_49 ⟨Nat.le_of_ble_eq_true rfl, Nat.le_of_ble_eq_true rfl⟩ (fun v w h => by rw [h.2]; rfl) (fun v w1 H locs hZ hP hD hS => ?_)
    obtain ⟨rfl, rfl⟩ := hZ
    have hP : va_P g vwCl ([moO ma (updZ (updZ (updZ M 10 d_3.2.1) 11 (uEnd S (M 9) d_3.2.1 d_3.2.2)) 12 (M 12 + (if ¬ uEnd S (M 9) d_3.2.1 d_3.2.2 = 0 ∧ (decide (0 ≤ (10 * d_1.1) + d_2.1 ∧ (10 * d_1.1) + d_2.1 ≤ D 10 0 - 1)) = false then 1 else 0))), arC (ma 8) (τ 0) 120 S, arC (ma 3) (τ 0) 291 (flR D)]) H := hP
    have hD : va_D A ([moO ma (updZ (updZ (updZ M 10 d_3.2.1) 11 (uEnd S (M 9) d_3.2.1 d_3.2.2)) 12 (M 12 + (if ¬ uEnd S (M 9) d_3.2.1 d_3.2.2 = 0 ∧ (decide (0 ≤ (10 * d_1.1) + d_2.1 ∧ (10 * d_1.1) + d_2.1 ≤ D 10 0 - 1)) = false then 1 else 0))), arC (ma 8) (τ 0) 120 S, arC (ma 3) (τ 0) 291 (flR D)]) := hD
    refine tl_some ?_
    refine zb_if_eq (tgt := 65) hx hb dX10_readHang_52 (by decide) (fun c_4 => ?_) (fun c_4 => ?_)
    · have _ := c_4
      exact rw_vret hx hb hr hlocks hP hS (by exact ⟨(d_3.2.1, uEnd S (M 9) d_3.2.1 d_3.2.2, M 12 + (if ¬ uEnd S (M 9) d_3.2.1 d_3.2.2 = 0 ∧ (decide (0 ≤ (10 * d_1.1) + d_2.1 ∧ (10 * d_1.1) + d_2.1 ≤ D 10 0 - 1)) = false then 1 else 0), D), (by rw [uHa, ← hed_1, uHa2, ← hed_2, uHa3, ← hed_3, uHa4]; exact uFin_f (b := (decide (0 ≤ (10 * d_1.1) + d_2.1 ∧ (10 * d_1.1) + d_2.1 ≤ D 10 0 - 1))) c_4 (fun hg hb9 => by first | exact absurd hb9 (by decide) | (rw [show aHang D (10 * d_1.1 + d_2.1) d_3.1 = (-2, D) from (by (have hcr2 := of_decide_eq_false hb9); unfold aHang; rw [if_pos (by omega)])]; exact ⟨by show (-2 : Int) < 0; decide, rfl⟩))), rfl, rfl⟩) dX10_readHang_65
    · have _ := c_4
      have hcr2 := of_decide_eq_true (of_decide_eq_true c_4).2
      have hcn := cnt_le (fun s => decide (updZ (D 16) (10 * d_1.1 + d_2.1).toNat d_3.1 s = d_3.1)) (D 10 0).toNat
      refine lv_aload_n hx hb dX10_readHang_55 rfl (lv_at hl 3 rfl) ?_
      refine va_get (D := g) (ci := 10) (v := Value.ref (ma 3)) (C := RX10) (T := TX10) (N := 18) hx hb hts in_X10_readHang_X10 hown hK.1 hP 0 (rfl) rfl 3 (by decide) (hts _ (List.mem_of_getElem? (i := 1) rfl) : (Cond.fieldLink RX10 16 "CordSealsModel" "read" "[I").before _ s = true) (fun _ h9 => h9) rfl dX10_readHang_56 ?_
      refine lv_iload_n hx hb dX10_readHang_59 rfl (lv_at hl 1 rfl) ?_
      refine cv_i (y := iI ((((10 * d_1.1) + d_2.1).toNat : Nat) : Int)) (congrArg iI (by omega)) ?_
      refine lv_iload_n hx hb dX10_readHang_60 rfl (lv_at hl 0 rfl) ?_
      refine rw_S (As := [Value.ref (ma 3), Value.int (iI ((((10 * d_1.1) + d_2.1).toNat : Nat) : Int)), Value.int (iI d_3.1)]) (rest := []) ⟨hx, hb, hml, hown, hts⟩ (c_X10_goHang l g τ (ma 3) D hI (((10 * d_1.1) + d_2.1).toNat) (by omega) d_3.1 ⟨by omega, by omega⟩ (SI_hang hI ⟨by omega, by omega⟩)) gX10_readHang_X10_goHang cd_X10_goHang rfl ⟨rfl, rfl⟩ ⟨Nat.le_of_ble_eq_true rfl, Nat.le_of_ble_eq_true rfl⟩ hK hP hD hS [2] (rfl) (by decide) rfl hl rfl (Nat.le_of_ble_eq_true rfl) dX10_readHang_61 ⟨Nat.le_of_ble_eq_true rfl, Nat.le_of_ble_eq_true rfl⟩ (fun v w h => by rw [h.2]; exact f_fl _ _ _ _) (fun v w1 H locs hZ hP hD hS => ?_)
      obtain ⟨rfl, rfl⟩ := hZ
      have hP : va_P g vwCl ([moO ma (updZ (updZ (updZ M 10 d_3.2.1) 11 (uEnd S (M 9) d_3.2.1 d_3.2.2)) 12 (M 12 + (if ¬ uEnd S (M 9) d_3.2.1 d_3.2.2 = 0 ∧ (decide (0 ≤ (10 * d_1.1) + d_2.1 ∧ (10 * d_1.1) + d_2.1 ≤ D 10 0 - 1)) = false then 1 else 0))), arC (ma 8) (τ 0) 120 S, arC (ma 3) (τ 0) 291 (flR (u2 D 16 (updZ (D 16) (((10 * d_1.1) + d_2.1).toNat) d_3.1)))]) H := hP
      have hD : va_D A ([moO ma (updZ (updZ (updZ M 10 d_3.2.1) 11 (uEnd S (M 9) d_3.2.1 d_3.2.2)) 12 (M 12 + (if ¬ uEnd S (M 9) d_3.2.1 d_3.2.2 = 0 ∧ (decide (0 ≤ (10 * d_1.1) + d_2.1 ∧ (10 * d_1.1) + d_2.1 ≤ D 10 0 - 1)) = false then 1 else 0))), arC (ma 8) (τ 0) 120 S, arC (ma 3) (τ 0) 291 (flR (u2 D 16 (updZ (D 16) (((10 * d_1.1) + d_2.1).toNat) d_3.1)))]) := hD
      refine tl_some ?_
      refine lv_pop hx hb dX10_readHang_64 rfl ?_
      exact rw_vret hx hb hr hlocks hP hS (by exact ⟨(d_3.2.1, uEnd S (M 9) d_3.2.1 d_3.2.2, M 12 + (if ¬ uEnd S (M 9) d_3.2.1 d_3.2.2 = 0 ∧ (decide (0 ≤ (10 * d_1.1) + d_2.1 ∧ (10 * d_1.1) + d_2.1 ≤ D 10 0 - 1)) = false then 1 else 0), u2 D 16 (updZ (D 16) (((10 * d_1.1) + d_2.1).toNat) d_3.1)), (by rw [uHa, ← hed_1, uHa2, ← hed_2, uHa3, ← hed_3, uHa4, show aHang D (10 * d_1.1 + d_2.1) d_3.1 = (cnt (fun s => decide (updZ (D 16) (10 * d_1.1 + d_2.1).toNat d_3.1 s = d_3.1)) (D 10 0).toNat, u2 D 16 (updZ (D 16) (10 * d_1.1 + d_2.1).toNat d_3.1)) from (by (have hgg : ¬ uEnd S (M 9) d_3.2.1 d_3.2.2 = 0 := (of_decide_eq_true c_4).1); (have hcr2 := of_decide_eq_true (of_decide_eq_true c_4).2); unfold aHang; rw [if_neg (by omega)])]; exact uFin_t (b := (decide (0 ≤ (10 * d_1.1) + d_2.1 ∧ (10 * d_1.1) + d_2.1 ≤ D 10 0 - 1))) (r := (cnt (fun s => decide (updZ (D 16) (10 * d_1.1 + d_2.1).toNat d_3.1 s = d_3.1)) (D 10 0).toNat, u2 D 16 (updZ (D 16) (10 * d_1.1 + d_2.1).toNat d_3.1))) c_4 (by show (0 : Int) ≤ cnt (fun s => decide (updZ (D 16) (10 * d_1.1 + d_2.1).toNat d_3.1 s = d_3.1)) (D 10 0).toNat; omega)), rfl, rfl⟩) dX10_readHang_65
  · skip
    refine lv_iload_n hx hb dX10_readHang_13 rfl (lv_at hl 0 rfl) ?_
    refine lv_iconst (v := iI 2) hx hb dX10_readHang_14 (by decide) ?_
    refine zi_icmp_ne (tgt := 22) hx hb ⟨by omega, by omega⟩ ⟨by decide, by decide⟩ dX10_readHang_15 (by decide) (fun c_5 => ?_) (fun c_5 => ?_)
    · have _ := c_5
      refine lv_bipush (v := iI 9) hx hb dX10_readHang_22 (by decide) ?_
      exact cv_i (congrArg iI (Eq.symm (show (if d_1.1 = 2 then 3 else 9) = 9 from by first | rw [if_pos (by omega)] | rw [if_neg (by omega)]))) K
    · have _ := c_5
      refine lv_iconst (v := iI 3) hx hb dX10_readHang_18 (by decide) ?_
      refine lv_goto (tgt := 24) hx hb dX10_readHang_19 (by decide) ?_
      exact cv_i (congrArg iI (Eq.symm (show (if d_1.1 = 2 then 3 else 9) = 3 from by first | rw [if_pos (by omega)] | rw [if_neg (by omega)]))) K
