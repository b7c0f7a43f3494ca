theorem cd_X10_runCrack : cd yX10_runCrack 2 := by decide +kernel
theorem in_X10_runCrack_X10 : ∀ w ∈ wsX100, w ∈ wsX10_runCrack := by decide +kernel
set_option maxHeartbeats 2000000 in
set_option maxRecDepth 100000 in
theorem c_X10_runCrack (l : Launch) (g : va_G) (τ : Nat → ClassId) (ma : Nat → Nat) (M : Nat → Int) (R : Nat → Nat → Int) (hI : SI R) (z1 : Int) (rz1 : -2147483648 ≤ z1 ∧ z1 < 2147483648) (y1 : Int) (ry1 : -2147483648 ≤ y1 ∧ y1 < 2147483648)  : Met l yX10_runCrack wsX10_runCrack { frames := 2, cells := 0, slots := 0, locals := 46 } (va_Pc [Value.ref (ma 0), Value.int (iI z1), Value.int (iI y1)] (rwW g τ ([moO ma M, arC (ma 2) (τ 0) 291 (flR R)]))) (rwQ g (fun v w => v = some (Value.int (iI (zB (decide (0 ≤ (aCrack R z1 y1).1))))) ∧ w = [moO ma M, arC (ma 2) (τ 0) 291 (flR (aCrack R z1 y1).2)]) (inW ([moO ma M, arC (ma 2) (τ 0) 291 (flR R)]))) 0 0 (inW ([moO ma M, arC (ma 2) (τ 0) 291 (flR R)])) := by
  have hB := hI.hB
  have hr0 := hI.r
  have hd0 := hI.d
  have hs0 := hI.s
  refine rwMet (cc := cX10_runCrack) (maxL := 3) (ret := (some .boolean)) (lv := [(0, Value.ref (ma 0)), (1, Value.int (iI z1)), (2, Value.int (iI y1))]) (by decide) rfl (Nat.le_of_ble_eq_true rfl) rfl ?_
  intro p e s m below meth c hx hb hr hml hts hown hlocks A H hP hD hS hK ls hl
  refine lv_aload_n hx hb dX10_runCrack_0 rfl (lv_at hl 0 rfl) ?_
  refine va_get (D := g) (ci := 10) (v := Value.ref (ma 2)) (C := RX10) (T := TX10) (N := 18) hx hb hts in_X10_runCrack_X10 hown hK.1 hP 0 (rfl) rfl 2 (by decide) (hts _ (List.mem_of_getElem? (i := 1) rfl) : (Cond.fieldLink RX10 13 "CordSealsModel" "trial" "[I").before _ s = true) (fun _ h9 => h9) rfl dX10_runCrack_1 ?_
  refine lv_iload_n hx hb dX10_runCrack_4 rfl (lv_at hl 1 rfl) ?_
  refine ro_S (As := [Value.ref (ma 2), Value.int (iI z1)]) (rest := []) (v := some (Value.int (iI (zB (decide (0 ≤ z1 ∧ z1 ≤ R 4 0 - 1)))))) ⟨hx, hb, hml, hown, hts⟩ (c_X10_hasDie l g τ (ma 2) R hI z1 ⟨by omega, by omega⟩) gX10_runCrack_X10_hasDie cd_X10_hasDie rfl ⟨rfl, rfl⟩ ⟨Nat.le_of_ble_eq_true rfl, Nat.le_of_ble_eq_true rfl⟩ hK (cut_P (is := [1]) hP rfl) rfl hl rfl (Nat.le_of_ble_eq_true rfl) dX10_runCrack_5 ⟨Nat.le_of_ble_eq_true rfl, Nat.le_of_ble_eq_true rfl⟩ ?_
  refine tl_some ?_
  refine zb_if_eq (tgt := 46) hx hb dX10_runCrack_8 (by decide) (fun c_1 => ?_) (fun c_1 => ?_)
  · have cd_c_1 := of_decide_eq_false c_1
    refine lv_iconst (v := iI 0) hx hb dX10_runCrack_46 (by decide) ?_
    exact rw_zret hx hb hr hlocks hP hS (by first | (have ha : aCrack R z1 y1 = (-2, R) := (by unfold aCrack; rw [if_pos (by omega)]); rw [ha]; exact ⟨⟨rfl, rfl⟩, ⟨false, rfl⟩⟩) | (have ha : aCrack R z1 y1 = (-3, R) := (by unfold aCrack; rw [if_neg (by omega), if_pos (by unfold isY; omega)]); rw [ha]; exact ⟨⟨rfl, rfl⟩, ⟨false, rfl⟩⟩) | (have ha : aCrack R z1 y1 = (-4, R) := (by unfold aCrack; rw [if_neg (by omega), if_neg (by unfold isY; omega)]; (try simp only [Int.toNat_natCast]); rw [if_pos hcc]); rw [ha]; exact ⟨⟨rfl, rfl⟩, ⟨false, rfl⟩⟩)) dX10_runCrack_47
  · have cd_c_1 := of_decide_eq_true c_1
    refine lv_iload_n hx hb dX10_runCrack_11 rfl (lv_at hl 2 rfl) ?_
    refine ro_S (As := [Value.int (iI y1)]) (rest := []) (v := some (Value.int (iI (zB (decide (1000 ≤ y1 ∧ y1 ≤ 1999)))))) ⟨hx, hb, hml, hown, hts⟩ (c_X10_isYear l g τ y1 ⟨by omega, by omega⟩) gX10_runCrack_X10_isYear cd_X10_isYear rfl ⟨rfl, rfl⟩ ⟨Nat.le_of_ble_eq_true rfl, Nat.le_of_ble_eq_true rfl⟩ hK (fun _ _ h => by cases h) rfl hl rfl (Nat.le_of_ble_eq_true rfl) dX10_runCrack_12 ⟨Nat.le_of_ble_eq_true rfl, Nat.le_of_ble_eq_true rfl⟩ ?_
    refine tl_some ?_
    refine zb_if_eq (tgt := 46) hx hb dX10_runCrack_15 (by decide) (fun c_2 => ?_) (fun c_2 => ?_)
    · have cd_c_2 := of_decide_eq_false c_2
      refine lv_iconst (v := iI 0) hx hb dX10_runCrack_46 (by decide) ?_
      exact rw_zret hx hb hr hlocks hP hS (by first | (have ha : aCrack R z1 y1 = (-2, R) := (by unfold aCrack; rw [if_pos (by omega)]); rw [ha]; exact ⟨⟨rfl, rfl⟩, ⟨false, rfl⟩⟩) | (have ha : aCrack R z1 y1 = (-3, R) := (by unfold aCrack; rw [if_neg (by omega), if_pos (by unfold isY; omega)]); rw [ha]; exact ⟨⟨rfl, rfl⟩, ⟨false, rfl⟩⟩) | (have ha : aCrack R z1 y1 = (-4, R) := (by unfold aCrack; rw [if_neg (by omega), if_neg (by unfold isY; omega)]; (try simp only [Int.toNat_natCast]); rw [if_pos hcc]); rw [ha]; exact ⟨⟨rfl, rfl⟩, ⟨false, rfl⟩⟩)) dX10_runCrack_47
    · have cd_c_2 := of_decide_eq_true c_2
      obtain ⟨d1, rfl⟩ := Int.eq_ofNat_of_zero_le (show 0 ≤ z1 by omega)
      have hdl := hI.ds d1 (by omega)
      refine lv_aload_n hx hb dX10_runCrack_18 rfl (lv_at hl 0 rfl) ?_
      refine va_get (D := g) (ci := 10) (v := Value.ref (ma 2)) (C := RX10) (T := TX10) (N := 18) hx hb hts in_X10_runCrack_X10 hown hK.1 hP 0 (rfl) rfl 2 (by decide) (hts _ (List.mem_of_getElem? (i := 1) rfl) : (Cond.fieldLink RX10 13 "CordSealsModel" "trial" "[I").before _ s = true) (fun _ h9 => h9) rfl dX10_runCrack_19 ?_
      refine lv_iload_n hx hb dX10_runCrack_22 rfl (lv_at hl 1 rfl) ?_
      refine lv_iload_n hx hb dX10_runCrack_23 rfl (lv_at hl 2 rfl) ?_
      refine ro_S (As := [Value.ref (ma 2), Value.int (iI (d1 : Int)), Value.int (iI y1)]) (rest := []) (v := some (Value.int (iI (zB (decide (R 8 d1 < 4) && !dIn R d1 (R 8 d1).toNat y1))))) ⟨hx, hb, hml, hown, hts⟩ (e_X10_canCrack l g τ (ma 2) R hI d1 (by omega) y1 ⟨by omega, by omega⟩) gX10_runCrack_X10_canCrack cd_X10_canCrack rfl ⟨rfl, rfl⟩ ⟨Nat.le_of_ble_eq_true rfl, Nat.le_of_ble_eq_true rfl⟩ hK (cut_P (is := [1]) hP rfl) rfl hl rfl (Nat.le_of_ble_eq_true rfl) dX10_runCrack_24 ⟨Nat.le_of_ble_eq_true rfl, Nat.le_of_ble_eq_true rfl⟩ ?_
      refine tl_some ?_
      refine zb_if_eq (tgt := 46) hx hb dX10_runCrack_27 (by decide) (fun c_3 => ?_) (fun c_3 => ?_)
      · have _ := c_3
        have hcc := cP_f c_3
        refine lv_iconst (v := iI 0) hx hb dX10_runCrack_46 (by decide) ?_
        exact rw_zret hx hb hr hlocks hP hS (by first | (have ha : aCrack R (d1 : Int) y1 = (-2, R) := (by unfold aCrack; rw [if_pos (by omega)]); rw [ha]; exact ⟨⟨rfl, rfl⟩, ⟨false, rfl⟩⟩) | (have ha : aCrack R (d1 : Int) y1 = (-3, R) := (by unfold aCrack; rw [if_neg (by omega), if_pos (by unfold isY; omega)]); rw [ha]; exact ⟨⟨rfl, rfl⟩, ⟨false, rfl⟩⟩) | (have ha : aCrack R (d1 : Int) y1 = (-4, R) := (by unfold aCrack; rw [if_neg (by omega), if_neg (by unfold isY; omega)]; (try simp only [Int.toNat_natCast]); rw [if_pos hcc]); rw [ha]; exact ⟨⟨rfl, rfl⟩, ⟨false, rfl⟩⟩)) dX10_runCrack_47
      · have _ := c_3
        have hcc := cP_t c_3
        refine lv_aload_n hx hb dX10_runCrack_30 rfl (lv_at hl 0 rfl) ?_
        refine va_get (D := g) (ci := 10) (v := Value.ref (ma 2)) (C := RX10) (T := TX10) (N := 18) hx hb hts in_X10_runCrack_X10 hown hK.1 hP 0 (rfl) rfl 2 (by decide) (hts _ (List.mem_of_getElem? (i := 1) rfl) : (Cond.fieldLink RX10 13 "CordSealsModel" "trial" "[I").before _ s = true) (fun _ h9 => h9) rfl dX10_runCrack_31 ?_
        refine lv_iload_n hx hb dX10_runCrack_34 rfl (lv_at hl 1 rfl) ?_
        refine lv_iload_n hx hb dX10_runCrack_35 rfl (lv_at hl 2 rfl) ?_
        refine rw_S (As := [Value.ref (ma 2), Value.int (iI (d1 : Int)), Value.int (iI y1)]) (rest := []) ⟨hx, hb, hml, hown, hts⟩ (c_X10_goCrack l g τ (ma 2) R hI d1 (by omega) y1 ⟨by omega, by omega⟩ (by omega)) gX10_runCrack_X10_goCrack cd_X10_goCrack rfl ⟨rfl, rfl⟩ ⟨Nat.le_of_ble_eq_true rfl, Nat.le_of_ble_eq_true rfl⟩ hK hP hD hS [1] (rfl) (by decide) rfl hl rfl (Nat.le_of_ble_eq_true rfl) dX10_runCrack_36 ⟨Nat.le_of_ble_eq_true rfl, Nat.le_of_ble_eq_true rfl⟩ (fun v w h => by rw [h.2]; exact f_fl _ _ _ _) (fun v w1 H locs hZ hP hD hS => ?_)
        obtain ⟨rfl, rfl⟩ := hZ
        have hP : va_P g vwCl ([moO ma M, arC (ma 2) (τ 0) 291 (flR (u2 (u2 R 9 (updZ (R 9) (d1 * 4 + (R 8 d1).toNat) y1)) 8 (updZ (R 8) d1 (R 8 d1 + 1))))]) H := hP
        have hD : va_D A ([moO ma M, arC (ma 2) (τ 0) 291 (flR (u2 (u2 R 9 (updZ (R 9) (d1 * 4 + (R 8 d1).toNat) y1)) 8 (updZ (R 8) d1 (R 8 d1 + 1))))]) := hD
        refine tl_some ?_
        refine zi_if_lt (tgt := 46) hx hb ⟨by omega, by omega⟩ dX10_runCrack_39 (by decide) (fun c_4 => ?_) (fun c_4 => ?_)
        · have _ := c_4
          refine lv_iconst (v := iI 0) hx hb dX10_runCrack_46 (by decide) ?_
          exact rw_zret hx hb hr hlocks hP hS (by first | (exfalso; omega)) dX10_runCrack_47
        · have _ := c_4
          refine lv_iconst (v := iI 1) hx hb dX10_runCrack_42 (by decide) ?_
          refine lv_goto (tgt := 47) hx hb dX10_runCrack_43 (by decide) ?_
          exact rw_zret hx hb hr hlocks hP hS (by first | (have ha : aCrack R (d1 : Int) y1 = (R 8 d1, u2 (u2 R 9 (updZ (R 9) (d1 * 4 + (R 8 d1).toNat) y1)) 8 (updZ (R 8) d1 (R 8 d1 + 1))) := (by unfold aCrack; rw [if_neg (by omega), if_neg (by unfold isY; omega)]; (try simp only [Int.toNat_natCast]); rw [if_neg hcc]); rw [ha]; dsimp only; exact ⟨⟨by rw [decide_eq_true (show (0 : Int) ≤ R 8 d1 by omega)]; rfl, rfl⟩, ⟨true, rfl⟩⟩)) dX10_runCrack_47

theorem cd_X10_runShow : cd yX10_runShow 2 := by decide +kernel
theorem in_X10_runShow_X10 : ∀ w ∈ wsX100, w ∈ wsX10_runShow := by decide +kernel
set_option maxHeartbeats 2000000 in
set_option maxRecDepth 100000 in
theorem c_X10_runShow (l : Launch) (g : va_G) (τ : Nat → ClassId) (ma : Nat → Nat) (M : Nat → Int) (R : Nat → Nat → Int) (hI : SI R) (z1 : Int) (rz1 : -2147483648 ≤ z1 ∧ z1 < 2147483648) (y1 : Int) (ry1 : -2147483648 ≤ y1 ∧ y1 < 2147483648)  : Met l yX10_runShow wsX10_runShow { frames := 2, cells := 0, slots := 0, locals := 47 } (va_Pc [Value.ref (ma 0), Value.int (iI z1), Value.int (iI y1)] (rwW g τ ([moO ma M, arC (ma 2) (τ 0) 291 (flR R)]))) (rwQ g (fun v w => v = some (Value.int (iI (zB (decide (0 ≤ (aShow R z1 y1).1))))) ∧ w = [moO ma M, arC (ma 2) (τ 0) 291 (flR (aShow R z1 y1).2)]) (inW ([moO ma M, arC (ma 2) (τ 0) 291 (flR R)]))) 0 0 (inW ([moO ma M, arC (ma 2) (τ 0) 291 (flR R)])) := by
  have hB := hI.hB
  have hr0 := hI.r
  have hd0 := hI.d
  have hs0 := hI.s
  refine rwMet (cc := cX10_runShow) (maxL := 3) (ret := (some .boolean)) (lv := [(0, Value.ref (ma 0)), (1, Value.int (iI z1)), (2, Value.int (iI y1))]) (by decide) rfl (Nat.le_of_ble_eq_true rfl) rfl ?_
  intro p e s m below meth c hx hb hr hml hts hown hlocks A H hP hD hS hK ls hl
  refine lv_aload_n hx hb dX10_runShow_0 rfl (lv_at hl 0 rfl) ?_
  refine va_get (D := g) (ci := 10) (v := Value.ref (ma 2)) (C := RX10) (T := TX10) (N := 18) hx hb hts in_X10_runShow_X10 hown hK.1 hP 0 (rfl) rfl 2 (by decide) (hts _ (List.mem_of_getElem? (i := 1) rfl) : (Cond.fieldLink RX10 13 "CordSealsModel" "trial" "[I").before _ s = true) (fun _ h9 => h9) rfl dX10_runShow_1 ?_
  refine lv_iload_n hx hb dX10_runShow_4 rfl (lv_at hl 1 rfl) ?_
  refine ro_S (As := [Value.ref (ma 2), Value.int (iI z1)]) (rest := []) (v := some (Value.int (iI (zB (decide (0 ≤ z1 ∧ z1 ≤ R 10 0 - 1)))))) ⟨hx, hb, hml, hown, hts⟩ (c_X10_hasSeal l g τ (ma 2) R hI z1 ⟨by omega, by omega⟩) gX10_runShow_X10_hasSeal cd_X10_hasSeal rfl ⟨rfl, rfl⟩ ⟨Nat.le_of_ble_eq_true rfl, Nat.le_of_ble_eq_true rfl⟩ hK (cut_P (is := [1]) hP rfl) rfl hl rfl (Nat.le_of_ble_eq_true rfl) dX10_runShow_5 ⟨Nat.le_of_ble_eq_true rfl, Nat.le_of_ble_eq_true rfl⟩ ?_
  refine tl_some ?_
  refine zb_if_eq (tgt := 47) hx hb dX10_runShow_8 (by decide) (fun c_1 => ?_) (fun c_1 => ?_)
  · have cd_c_1 := of_decide_eq_false c_1
    refine lv_iconst (v := iI 0) hx hb dX10_runShow_47 (by decide) ?_
    exact rw_zret hx hb hr hlocks hP hS (by first | (have ha : aShow R z1 y1 = (-2, R) := (by unfold aShow; rw [if_pos (by omega)]); rw [ha]; exact ⟨⟨rfl, rfl⟩, ⟨false, rfl⟩⟩) | (have ha : aShow R z1 y1 = (-3, R) := (by unfold aShow; rw [if_neg (by omega)]; (try simp only [Int.toNat_natCast]); rw [if_pos (by omega)]); rw [ha]; exact ⟨⟨rfl, rfl⟩, ⟨false, rfl⟩⟩)) dX10_runShow_48
  · have cd_c_1 := of_decide_eq_true c_1
    obtain ⟨s1, rfl⟩ := Int.eq_ofNat_of_zero_le (show 0 ≤ z1 by omega)
    have hsl := hI.sl s1 (by omega)
    have hdl := hI.ds (R 11 s1).toNat (by omega)
    have hpw := pow_r (m := (R 8 (R 11 s1).toNat).toNat) (by omega)
    refine lv_aload_n hx hb dX10_runShow_11 rfl (lv_at hl 0 rfl) ?_
    refine va_get (D := g) (ci := 10) (v := Value.ref (ma 2)) (C := RX10) (T := TX10) (N := 18) hx hb hts in_X10_runShow_X10 hown hK.1 hP 0 (rfl) rfl 2 (by decide) (hts _ (List.mem_of_getElem? (i := 1) rfl) : (Cond.fieldLink RX10 13 "CordSealsModel" "trial" "[I").before _ s = true) (fun _ h9 => h9) rfl dX10_runShow_12 ?_
    refine lv_aload_n hx hb dX10_runShow_15 rfl (lv_at hl 0 rfl) ?_
    refine va_get (D := g) (ci := 10) (v := Value.ref (ma 2)) (C := RX10) (T := TX10) (N := 18) hx hb hts in_X10_runShow_X10 hown hK.1 hP 0 (rfl) rfl 2 (by decide) (hts _ (List.mem_of_getElem? (i := 1) rfl) : (Cond.fieldLink RX10 13 "CordSealsModel" "trial" "[I").before _ s = true) (fun _ h9 => h9) rfl dX10_runShow_16 ?_
    refine lv_bipush (v := iI 105) hx hb dX10_runShow_19 (by decide) ?_
    refine lv_iload_n hx hb dX10_runShow_21 rfl (lv_at hl 1 rfl) ?_
    refine zi_add hx hb dX10_runShow_22 ?_
    refine zf_ald hx hb hK hP 1 (f := flR R) rfl (105 + s1) (by omega) (by omega) (by decide) (z := R 11 s1) (fl_11 (i := s1) (by omega) (by omega)) dX10_runShow_23 ?_
    have hb_2 := hB 11 s1
    refine cv_i (y := iI (((R 11 s1).toNat : Nat) : Int)) (congrArg iI (by omega)) ?_
    refine lv_iload_n hx hb dX10_runShow_24 rfl (lv_at hl 2 rfl) ?_
    refine ro_S (As := [Value.ref (ma 2), Value.int (iI (((R 11 s1).toNat : Nat) : Int)), Value.int (iI y1)]) (rest := []) (v := some (Value.int (iI (zB (decide (0 ≤ y1 ∧ y1 ≤ (2 : Int) ^ (R 8 ((R 11 s1).toNat)).toNat - 1)))))) ⟨hx, hb, hml, hown, hts⟩ (c_X10_areCracks l g τ (ma 2) R hI ((R 11 s1).toNat) (by omega) y1 ⟨by omega, by omega⟩) gX10_runShow_X10_areCracks cd_X10_areCracks rfl ⟨rfl, rfl⟩ ⟨Nat.le_of_ble_eq_true rfl, Nat.le_of_ble_eq_true rfl⟩ hK (cut_P (is := [1]) hP rfl) rfl hl rfl (Nat.le_of_ble_eq_true rfl) dX10_runShow_25 ⟨Nat.le_of_ble_eq_true rfl, Nat.le_of_ble_eq_true rfl⟩ ?_
    refine tl_some ?_
    refine zb_if_eq (tgt := 47) hx hb dX10_runShow_28 (by decide) (fun c_3 => ?_) (fun c_3 => ?_)
    · have cd_c_3 := of_decide_eq_false c_3
      refine lv_iconst (v := iI 0) hx hb dX10_runShow_47 (by decide) ?_
      exact rw_zret hx hb hr hlocks hP hS (by first | (have ha : aShow R (s1 : Int) y1 = (-2, R) := (by unfold aShow; rw [if_pos (by omega)]); rw [ha]; exact ⟨⟨rfl, rfl⟩, ⟨false, rfl⟩⟩) | (have ha : aShow R (s1 : Int) y1 = (-3, R) := (by unfold aShow; rw [if_neg (by omega)]; (try simp only [Int.toNat_natCast]); rw [if_pos (by omega)]); rw [ha]; exact ⟨⟨rfl, rfl⟩, ⟨false, rfl⟩⟩)) dX10_runShow_48
    · have cd_c_3 := of_decide_eq_true c_3
      refine lv_aload_n hx hb dX10_runShow_31 rfl (lv_at hl 0 rfl) ?_
      refine va_get (D := g) (ci := 10) (v := Value.ref (ma 2)) (C := RX10) (T := TX10) (N := 18) hx hb hts in_X10_runShow_X10 hown hK.1 hP 0 (rfl) rfl 2 (by decide) (hts _ (List.mem_of_getElem? (i := 1) rfl) : (Cond.fieldLink RX10 13 "CordSealsModel" "trial" "[I").before _ s = true) (fun _ h9 => h9) rfl dX10_runShow_32 ?_
      refine lv_iload_n hx hb dX10_runShow_35 rfl (lv_at hl 1 rfl) ?_
      refine lv_iload_n hx hb dX10_runShow_36 rfl (lv_at hl 2 rfl) ?_
      refine rw_S (As := [Value.ref (ma 2), Value.int (iI (s1 : Int)), Value.int (iI y1)]) (rest := []) ⟨hx, hb, hml, hown, hts⟩ (c_X10_goShow l g τ (ma 2) R hI s1 (by omega) y1 ⟨by omega, by omega⟩) gX10_runShow_X10_goShow cd_X10_goShow rfl ⟨rfl, rfl⟩ ⟨Nat.le_of_ble_eq_true rfl, Nat.le_of_ble_eq_true rfl⟩ hK hP hD hS [1] (rfl) (by decide) rfl hl rfl (Nat.le_of_ble_eq_true rfl) dX10_runShow_37 ⟨Nat.le_of_ble_eq_true rfl, Nat.le_of_ble_eq_true rfl⟩ (fun v w h => by rw [h.2]; exact f_fl _ _ _ _) (fun v w1 H locs hZ hP hD hS => ?_)
      obtain ⟨rfl, rfl⟩ := hZ
      have hP : va_P g vwCl ([moO ma M, arC (ma 2) (τ 0) 291 (flR (u2 R 15 (updZ (R 15) s1 y1)))]) H := hP
      have hD : va_D A ([moO ma M, arC (ma 2) (τ 0) 291 (flR (u2 R 15 (updZ (R 15) s1 y1)))]) := hD
      refine tl_some ?_
      refine zi_if_lt (tgt := 47) hx hb ⟨by omega, by omega⟩ dX10_runShow_40 (by decide) (fun c_4 => ?_) (fun c_4 => ?_)
      · have _ := c_4
        refine lv_iconst (v := iI 0) hx hb dX10_runShow_47 (by decide) ?_
        exact rw_zret hx hb hr hlocks hP hS (by first | (exfalso; omega)) dX10_runShow_48
      · have _ := c_4
        refine lv_iconst (v := iI 1) hx hb dX10_runShow_43 (by decide) ?_
        refine lv_goto (tgt := 48) hx hb dX10_runShow_44 (by decide) ?_
        exact rw_zret hx hb hr hlocks hP hS (by first | (have ha : aShow R (s1 : Int) y1 = (R 15 s1, u2 R 15 (updZ (R 15) s1 y1)) := (by unfold aShow; rw [if_neg (by omega)]; (try simp only [Int.toNat_natCast]); rw [if_neg (by omega)]); rw [ha]; dsimp only; exact ⟨⟨by rw [decide_eq_true (show (0 : Int) ≤ R 15 s1 by omega)]; rfl, rfl⟩, ⟨true, rfl⟩⟩)) dX10_runShow_48

theorem cd_X10_runHang : cd yX10_runHang 2 := by decide +kernel
theorem in_X10_runHang_X10 : ∀ w ∈ wsX100, w ∈ wsX10_runHang := by decide +kernel
set_option maxHeartbeats 2000000 in
set_option maxRecDepth 100000 in
theorem c_X10_runHang (l : Launch) (g : va_G) (τ : Nat → ClassId) (ma : Nat → Nat) (M : Nat → Int) (R : Nat → Nat → Int) (hI : SI R) (z1 : Int) (rz1 : -2147483648 ≤ z1 ∧ z1 < 2147483648) (y1 : Int) (ry1 : -2147483648 ≤ y1 ∧ y1 < 2147483648)  : Met l yX10_runHang wsX10_runHang { frames := 2, cells := 0, slots := 0, locals := 46 } (va_Pc [Value.ref (ma 0), Value.int (iI z1), Value.int (iI y1)] (rwW g τ ([moO ma M, arC (ma 2) (τ 0) 291 (flR R)]))) (rwQ g (fun v w => v = some (Value.int (iI (zB (decide (0 ≤ (aHang R z1 y1).1))))) ∧ w = [moO ma M, arC (ma 2) (τ 0) 291 (flR (aHang R z1 y1).2)]) (inW ([moO ma M, arC (ma 2) (τ 0) 291 (flR R)]))) 0 0 (inW ([moO ma M, arC (ma 2) (τ 0) 291 (flR R)])) := by
  have hB := hI.hB
  have hr0 := hI.r
  have hd0 := hI.d
  have hs0 := hI.s
  refine rwMet (cc := cX10_runHang) (maxL := 3) (ret := (some .boolean)) (lv := [(0, Value.ref (ma 0)), (1, Value.int (iI z1)), (2, Value.int (iI y1))]) (by decide) rfl (Nat.le_of_ble_eq_true rfl) rfl ?_
  intro p e s m below meth c hx hb hr hml hts hown hlocks A H hP hD hS hK ls hl
  refine lv_aload_n hx hb dX10_runHang_0 rfl (lv_at hl 0 rfl) ?_
  refine va_get (D := g) (ci := 10) (v := Value.ref (ma 2)) (C := RX10) (T := TX10) (N := 18) hx hb hts in_X10_runHang_X10 hown hK.1 hP 0 (rfl) rfl 2 (by decide) (hts _ (List.mem_of_getElem? (i := 1) rfl) : (Cond.fieldLink RX10 13 "CordSealsModel" "trial" "[I").before _ s = true) (fun _ h9 => h9) rfl dX10_runHang_1 ?_
  refine lv_iload_n hx hb dX10_runHang_4 rfl (lv_at hl 1 rfl) ?_
  refine ro_S (As := [Value.ref (ma 2), Value.int (iI z1)]) (rest := []) (v := some (Value.int (iI (zB (decide (0 ≤ z1 ∧ z1 ≤ R 10 0 - 1)))))) ⟨hx, hb, hml, hown, hts⟩ (c_X10_hasSeal l g τ (ma 2) R hI z1 ⟨by omega, by omega⟩) gX10_runHang_X10_hasSeal cd_X10_hasSeal rfl ⟨rfl, rfl⟩ ⟨Nat.le_of_ble_eq_true rfl, Nat.le_of_ble_eq_true rfl⟩ hK (cut_P (is := [1]) hP rfl) rfl hl rfl (Nat.le_of_ble_eq_true rfl) dX10_runHang_5 ⟨Nat.le_of_ble_eq_true rfl, Nat.le_of_ble_eq_true rfl⟩ ?_
  refine tl_some ?_
  refine zb_if_eq (tgt := 34) hx hb dX10_runHang_8 (by decide) (fun c_1 => ?_) (fun c_1 => ?_)
  · have cd_c_1 := of_decide_eq_false c_1
    refine lv_iconst (v := iI 0) hx hb dX10_runHang_34 (by decide) ?_
    exact rw_zret hx hb hr hlocks hP hS (by first | (have ha : aHang R z1 y1 = (-2, R) := (by unfold aHang; rw [if_pos (by omega)]); rw [ha]; exact ⟨⟨rfl, rfl⟩, ⟨false, rfl⟩⟩)) dX10_runHang_35
  · have cd_c_1 := of_decide_eq_true c_1
    refine lv_iload_n hx hb dX10_runHang_11 rfl (lv_at hl 2 rfl) ?_
    refine ro_S (As := [Value.int (iI y1)]) (rest := []) (v := some (Value.int (iI (zB (decide (0 ≤ y1 ∧ y1 ≤ 5)))))) ⟨hx, hb, hml, hown, hts⟩ (c_X10_isCharter l g τ y1 ⟨by omega, by omega⟩) gX10_runHang_X10_isCharter cd_X10_isCharter rfl ⟨rfl, rfl⟩ ⟨Nat.le_of_ble_eq_true rfl, Nat.le_of_ble_eq_true rfl⟩ hK (fun _ _ h => by cases h) rfl hl rfl (Nat.le_of_ble_eq_true rfl) dX10_runHang_12 ⟨Nat.le_of_ble_eq_true rfl, Nat.le_of_ble_eq_true rfl⟩ ?_
    refine tl_some ?_
    refine zb_if_eq (tgt := 34) hx hb dX10_runHang_15 (by decide) (fun c_2 => ?_) (fun c_2 => ?_)
    · have cd_c_2 := of_decide_eq_false c_2
      refine lv_iconst (v := iI 0) hx hb dX10_runHang_34 (by decide) ?_
      exact rw_zret hx hb hr hlocks hP hS (by first | (have ha : aHang R z1 y1 = (-2, R) := (by unfold aHang; rw [if_pos (by omega)]); rw [ha]; exact ⟨⟨rfl, rfl⟩, ⟨false, rfl⟩⟩)) dX10_runHang_35
    · have cd_c_2 := of_decide_eq_true c_2
      obtain ⟨s1, rfl⟩ := Int.eq_ofNat_of_zero_le (show 0 ≤ z1 by omega)
      have hhp := hang_pos (R := R) (s := s1) (z := y1) (by omega)
      have hhq := cnt_le (fun s => decide (updZ (R 16) s1 y1 s = y1)) (R 10 0).toNat
      refine lv_aload_n hx hb dX10_runHang_18 rfl (lv_at hl 0 rfl) ?_
      refine va_get (D := g) (ci := 10) (v := Value.ref (ma 2)) (C := RX10) (T := TX10) (N := 18) hx hb hts in_X10_runHang_X10 hown hK.1 hP 0 (rfl) rfl 2 (by decide) (hts _ (List.mem_of_getElem? (i := 1) rfl) : (Cond.fieldLink RX10 13 "CordSealsModel" "trial" "[I").before _ s = true) (fun _ h9 => h9) rfl dX10_runHang_19 ?_
      refine lv_iload_n hx hb dX10_runHang_22 rfl (lv_at hl 1 rfl) ?_
      refine lv_iload_n hx hb dX10_runHang_23 rfl (lv_at hl 2 rfl) ?_
      refine rw_S (As := [Value.ref (ma 2), Value.int (iI (s1 : Int)), Value.int (iI y1)]) (rest := []) ⟨hx, hb, hml, hown, hts⟩ (c_X10_goHang l g τ (ma 2) R hI s1 (by omega) y1 ⟨by omega, by omega⟩ (SI_hang hI ⟨by omega, by omega⟩)) gX10_runHang_X10_goHang cd_X10_goHang rfl ⟨rfl, rfl⟩ ⟨Nat.le_of_ble_eq_true rfl, Nat.le_of_ble_eq_true rfl⟩ hK hP hD hS [1] (rfl) (by decide) rfl hl rfl (Nat.le_of_ble_eq_true rfl) dX10_runHang_24 ⟨Nat.le_of_ble_eq_true rfl, Nat.le_of_ble_eq_true rfl⟩ (fun v w h => by rw [h.2]; exact f_fl _ _ _ _) (fun v w1 H locs hZ hP hD hS => ?_)
      obtain ⟨rfl, rfl⟩ := hZ
      have hP : va_P g vwCl ([moO ma M, arC (ma 2) (τ 0) 291 (flR (u2 R 16 (updZ (R 16) s1 y1)))]) H := hP
      have hD : va_D A ([moO ma M, arC (ma 2) (τ 0) 291 (flR (u2 R 16 (updZ (R 16) s1 y1)))]) := hD
      refine tl_some ?_
      refine zi_if_le (tgt := 34) hx hb ⟨by omega, by omega⟩ dX10_runHang_27 (by decide) (fun c_3 => ?_) (fun c_3 => ?_)
      · have _ := c_3
        refine lv_iconst (v := iI 0) hx hb dX10_runHang_34 (by decide) ?_
        exact rw_zret hx hb hr hlocks hP hS (by first | (exfalso; omega)) dX10_runHang_35
      · have _ := c_3
        refine lv_iconst (v := iI 1) hx hb dX10_runHang_30 (by decide) ?_
        refine lv_goto (tgt := 35) hx hb dX10_runHang_31 (by decide) ?_
        exact rw_zret hx hb hr hlocks hP hS (by first | (have ha : aHang R (s1 : Int) y1 = (cnt (fun s => decide (updZ (R 16) s1 y1 s = y1)) (R 10 0).toNat, u2 R 16 (updZ (R 16) s1 y1)) := (by unfold aHang; rw [if_neg (by omega)]; (try simp only [Int.toNat_natCast])); rw [ha]; dsimp only; exact ⟨⟨by rw [decide_eq_true (show (0 : Int) ≤ cnt (fun s => decide (updZ (R 16) s1 y1 s = y1)) (R 10 0).toNat by omega)]; rfl, rfl⟩, ⟨true, rfl⟩⟩)) dX10_runHang_35

theorem cd_X10_runCut : cd yX10_runCut 1 := by decide +kernel
theorem in_X10_runCut_X10 : ∀ w ∈ wsX100, w ∈ wsX10_runCut := by decide +kernel
set_option maxHeartbeats 2000000 in
set_option maxRecDepth 100000 in
theorem c_X10_runCut (l : Launch) (g : va_G) (τ : Nat → ClassId) (ma : Nat → Nat) (M : Nat → Int) (R : Nat → Nat → Int) (hI : SI R) (z1 : Int) (rz1 : -2147483648 ≤ z1 ∧ z1 < 2147483648)  : Met l yX10_runCut wsX10_runCut { frames := 2, cells := 0, slots := 0, locals := 46 } (va_Pc [Value.ref (ma 0), Value.int (iI z1)] (rwW g τ ([moO ma M, arC (ma 2) (τ 0) 291 (flR R)]))) (rwQ g (fun v w => v = some (Value.int (iI (zB (decide (0 ≤ (aCut R z1).1))))) ∧ w = [moO ma M, arC (ma 2) (τ 0) 291 (flR (aCut R z1).2)]) (inW ([moO ma M, arC (ma 2) (τ 0) 291 (flR R)]))) 0 0 (inW ([moO ma M, arC (ma 2) (τ 0) 291 (flR R)])) := by
  have hB := hI.hB
  have hr0 := hI.r
  have hd0 := hI.d
  have hs0 := hI.s
  refine rwMet (cc := cX10_runCut) (maxL := 2) (ret := (some .boolean)) (lv := [(0, Value.ref (ma 0)), (1, Value.int (iI z1))]) (by decide) rfl (Nat.le_of_ble_eq_true rfl) rfl ?_
  intro p e s m below meth c hx hb hr hml hts hown hlocks A H hP hD hS hK ls hl
  refine lv_aload_n hx hb dX10_runCut_0 rfl (lv_at hl 0 rfl) ?_
  refine va_get (D := g) (ci := 10) (v := Value.ref (ma 2)) (C := RX10) (T := TX10) (N := 18) hx hb hts in_X10_runCut_X10 hown hK.1 hP 0 (rfl) rfl 2 (by decide) (hts _ (List.mem_of_getElem? (i := 1) rfl) : (Cond.fieldLink RX10 13 "CordSealsModel" "trial" "[I").before _ s = true) (fun _ h9 => h9) rfl dX10_runCut_1 ?_
  refine lv_iload_n hx hb dX10_runCut_4 rfl (lv_at hl 1 rfl) ?_
  refine ro_S (As := [Value.ref (ma 2), Value.int (iI z1)]) (rest := []) (v := some (Value.int (iI (zB (decide (0 ≤ z1 ∧ z1 ≤ R 10 0 - 1)))))) ⟨hx, hb, hml, hown, hts⟩ (c_X10_hasSeal l g τ (ma 2) R hI z1 ⟨by omega, by omega⟩) gX10_runCut_X10_hasSeal cd_X10_hasSeal rfl ⟨rfl, rfl⟩ ⟨Nat.le_of_ble_eq_true rfl, Nat.le_of_ble_eq_true rfl⟩ hK (cut_P (is := [1]) hP rfl) rfl hl rfl (Nat.le_of_ble_eq_true rfl) dX10_runCut_5 ⟨Nat.le_of_ble_eq_true rfl, Nat.le_of_ble_eq_true rfl⟩ ?_
  refine tl_some ?_
  refine zb_if_eq (tgt := 40) hx hb dX10_runCut_8 (by decide) (fun c_1 => ?_) (fun c_1 => ?_)
  · have cd_c_1 := of_decide_eq_false c_1
    refine lv_iconst (v := iI 0) hx hb dX10_runCut_40 (by decide) ?_
    exact rw_zret hx hb hr hlocks hP hS (by first | (have ha : aCut R z1 = (-2, R) := (by unfold aCut; rw [if_pos (by omega)]); rw [ha]; exact ⟨⟨rfl, rfl⟩, ⟨false, rfl⟩⟩) | (have ha : aCut R z1 = (-4, R) := (by unfold aCut; rw [if_neg (by omega)]; (try simp only [Int.toNat_natCast]); rw [if_pos (by omega)]); rw [ha]; exact ⟨⟨rfl, rfl⟩, ⟨false, rfl⟩⟩)) dX10_runCut_41
  · have cd_c_1 := of_decide_eq_true c_1
    obtain ⟨s1, rfl⟩ := Int.eq_ofNat_of_zero_le (show 0 ≤ z1 by omega)
    have hsl := hI.sl s1 (by omega)
    refine lv_aload_n hx hb dX10_runCut_11 rfl (lv_at hl 0 rfl) ?_
    refine va_get (D := g) (ci := 10) (v := Value.ref (ma 2)) (C := RX10) (T := TX10) (N := 18) hx hb hts in_X10_runCut_X10 hown hK.1 hP 0 (rfl) rfl 2 (by decide) (hts _ (List.mem_of_getElem? (i := 1) rfl) : (Cond.fieldLink RX10 13 "CordSealsModel" "trial" "[I").before _ s = true) (fun _ h9 => h9) rfl dX10_runCut_12 ?_
    refine lv_sipush (v := iI 225) hx hb dX10_runCut_15 (by decide) ?_
    refine lv_iload_n hx hb dX10_runCut_18 rfl (lv_at hl 1 rfl) ?_
    refine zi_add hx hb dX10_runCut_19 ?_
    refine zf_ald hx hb hK hP 1 (f := flR R) rfl (225 + s1) (by omega) (by omega) (by decide) (z := R 16 s1) (fl_16 (i := s1) (by omega) (by omega)) dX10_runCut_20 ?_
    have hb_2 := hB 16 s1
    refine lv_iconst (v := iI (-1)) hx hb dX10_runCut_21 (by decide) ?_
    refine zi_icmp_eq (tgt := 40) hx hb ⟨by omega, by omega⟩ ⟨by decide, by decide⟩ dX10_runCut_22 (by decide) (fun c_3 => ?_) (fun c_3 => ?_)
    · have _ := c_3
      refine lv_iconst (v := iI 0) hx hb dX10_runCut_40 (by decide) ?_
      exact rw_zret hx hb hr hlocks hP hS (by first | (have ha : aCut R (s1 : Int) = (-2, R) := (by unfold aCut; rw [if_pos (by omega)]); rw [ha]; exact ⟨⟨rfl, rfl⟩, ⟨false, rfl⟩⟩) | (have ha : aCut R (s1 : Int) = (-4, R) := (by unfold aCut; rw [if_neg (by omega)]; (try simp only [Int.toNat_natCast]); rw [if_pos (by omega)]); rw [ha]; exact ⟨⟨rfl, rfl⟩, ⟨false, rfl⟩⟩)) dX10_runCut_41
    · have _ := c_3
      refine lv_aload_n hx hb dX10_runCut_25 rfl (lv_at hl 0 rfl) ?_
      refine va_get (D := g) (ci := 10) (v := Value.ref (ma 2)) (C := RX10) (T := TX10) (N := 18) hx hb hts in_X10_runCut_X10 hown hK.1 hP 0 (rfl) rfl 2 (by decide) (hts _ (List.mem_of_getElem? (i := 1) rfl) : (Cond.fieldLink RX10 13 "CordSealsModel" "trial" "[I").before _ s = true) (fun _ h9 => h9) rfl dX10_runCut_26 ?_
      refine lv_iload_n hx hb dX10_runCut_29 rfl (lv_at hl 1 rfl) ?_
      refine rw_S (As := [Value.ref (ma 2), Value.int (iI (s1 : Int))]) (rest := []) ⟨hx, hb, hml, hown, hts⟩ (c_X10_goCut l g τ (ma 2) R hI s1 (by omega)) gX10_runCut_X10_goCut cd_X10_goCut rfl ⟨rfl, rfl⟩ ⟨Nat.le_of_ble_eq_true rfl, Nat.le_of_ble_eq_true rfl⟩ hK hP hD hS [1] (rfl) (by decide) rfl hl rfl (Nat.le_of_ble_eq_true rfl) dX10_runCut_30 ⟨Nat.le_of_ble_eq_true rfl, Nat.le_of_ble_eq_true rfl⟩ (fun v w h => by rw [h.2]; exact f_fl _ _ _ _) (fun v w1 H locs hZ hP hD hS => ?_)
      obtain ⟨rfl, rfl⟩ := hZ
      have hP : va_P g vwCl ([moO ma M, arC (ma 2) (τ 0) 291 (flR (u2 R 16 (updZ (R 16) s1 (-1))))]) H := hP
      have hD : va_D A ([moO ma M, arC (ma 2) (τ 0) 291 (flR (u2 R 16 (updZ (R 16) s1 (-1))))]) := hD
      refine tl_some ?_
      refine zi_if_lt (tgt := 40) hx hb ⟨by omega, by omega⟩ dX10_runCut_33 (by decide) (fun c_4 => ?_) (fun c_4 => ?_)
      · have _ := c_4
        refine lv_iconst (v := iI 0) hx hb dX10_runCut_40 (by decide) ?_
        exact rw_zret hx hb hr hlocks hP hS (by first | (exfalso; omega)) dX10_runCut_41
      · have _ := c_4
        refine lv_iconst (v := iI 1) hx hb dX10_runCut_36 (by decide) ?_
        refine lv_goto (tgt := 41) hx hb dX10_runCut_37 (by decide) ?_
        exact rw_zret hx hb hr hlocks hP hS (by first | (have ha : aCut R (s1 : Int) = (R 16 s1, u2 R 16 (updZ (R 16) s1 (-1))) := (by unfold aCut; rw [if_neg (by omega)]; (try simp only [Int.toNat_natCast]); rw [if_neg (by omega)]); rw [ha]; dsimp only; exact ⟨⟨by rw [decide_eq_true (show (0 : Int) ≤ R 16 s1 by omega)]; rfl, rfl⟩, ⟨true, rfl⟩⟩)) dX10_runCut_41

theorem cd_X10_runShelve : cd yX10_runShelve 3 := by decide +kernel
theorem in_X10_runShelve_X10 : ∀ w ∈ wsX100, w ∈ wsX10_runShelve := by decide +kernel
set_option maxHeartbeats 2000000 in
set_option maxRecDepth 100000 in
theorem c_X10_runShelve (l : Launch) (g : va_G) (τ : Nat → ClassId) (ma : Nat → Nat) (M : Nat → Int) (R : Nat → Nat → Int) (hI : SI R) (z1 : Int) (rz1 : -2147483648 ≤ z1 ∧ z1 < 2147483648) (y1 : Int) (ry1 : -2147483648 ≤ y1 ∧ y1 < 2147483648) (x1 : Int) (rx1 : -2147483648 ≤ x1 ∧ x1 < 2147483648)  : Met l yX10_runShelve wsX10_runShelve { frames := 4, cells := 0, slots := 0, locals := 95 } (va_Pc [Value.ref (ma 0), Value.int (iI z1), Value.int (iI y1), Value.int (iI x1)] (rwW g τ ([moO ma M, arC (ma 2) (τ 0) 291 (flR R)]))) (rwQ g (fun v w => v = some (Value.int (iI (zB (decide (0 ≤ (aShelve R z1 y1 x1).1))))) ∧ w = [moO ma M, arC (ma 2) (τ 0) 291 (flR (aShelve R z1 y1 x1).2)]) (inW ([moO ma M, arC (ma 2) (τ 0) 291 (flR R)]))) 0 0 (inW ([moO ma M, arC (ma 2) (τ 0) 291 (flR R)])) := by
  have hB := hI.hB
  have hr0 := hI.r
  have hd0 := hI.d
  have hs0 := hI.s
  refine rwMet (cc := cX10_runShelve) (maxL := 4) (ret := (some .boolean)) (lv := [(0, Value.ref (ma 0)), (1, Value.int (iI z1)), (2, Value.int (iI y1)), (3, Value.int (iI x1))]) (by decide) rfl (Nat.le_of_ble_eq_true rfl) rfl ?_
  intro p e s m below meth c hx hb hr hml hts hown hlocks A H hP hD hS hK ls hl
  refine lv_aload_n hx hb dX10_runShelve_0 rfl (lv_at hl 0 rfl) ?_
  refine va_get (D := g) (ci := 10) (v := Value.ref (ma 2)) (C := RX10) (T := TX10) (N := 18) hx hb hts in_X10_runShelve_X10 hown hK.1 hP 0 (rfl) rfl 2 (by decide) (hts _ (List.mem_of_getElem? (i := 1) rfl) : (Cond.fieldLink RX10 13 "CordSealsModel" "trial" "[I").before _ s = true) (fun _ h9 => h9) rfl dX10_runShelve_1 ?_
  refine lv_iload_n hx hb dX10_runShelve_4 rfl (lv_at hl 1 rfl) ?_
  refine ro_S (As := [Value.ref (ma 2), Value.int (iI z1)]) (rest := []) (v := some (Value.int (iI (zB (decide (0 ≤ z1 ∧ z1 ≤ R 10 0 - 1)))))) ⟨hx, hb, hml, hown, hts⟩ (c_X10_hasSeal l g τ (ma 2) R hI z1 ⟨by omega, by omega⟩) gX10_runShelve_X10_hasSeal cd_X10_hasSeal rfl ⟨rfl, rfl⟩ ⟨Nat.le_of_ble_eq_true rfl, Nat.le_of_ble_eq_true rfl⟩ hK (cut_P (is := [1]) hP rfl) rfl hl rfl (Nat.le_of_ble_eq_true rfl) dX10_runShelve_5 ⟨Nat.le_of_ble_eq_true rfl, Nat.le_of_ble_eq_true rfl⟩ ?_
  refine tl_some ?_
  refine zb_if_eq (tgt := 66) hx hb dX10_runShelve_8 (by decide) (fun c_1 => ?_) (fun c_1 => ?_)
  · have cd_c_1 := of_decide_eq_false c_1
    refine lv_iconst (v := iI 0) hx hb dX10_runShelve_66 (by decide) ?_
    exact rw_zret hx hb hr hlocks hP hS (by first | (have ha : aShelve R z1 y1 x1 = (-2, R) := (by unfold aShelve; rw [if_pos (by omega)]); rw [ha]; exact ⟨⟨rfl, rfl⟩, ⟨false, rfl⟩⟩) | (have ha : aShelve R z1 y1 x1 = (-3, R) := (by unfold aShelve; rw [if_neg (by omega)]; (try simp only [Int.toNat_natCast]); rw [if_pos (by omega)]); rw [ha]; exact ⟨⟨rfl, rfl⟩, ⟨false, rfl⟩⟩) | (have ha : aShelve R z1 y1 x1 = (-4, R) := (by unfold aShelve; rw [if_neg (by omega)]; (try simp only [Int.toNat_natCast]); rw [if_neg (by omega), if_pos hcc]); rw [ha]; exact ⟨⟨rfl, rfl⟩, ⟨false, rfl⟩⟩)) dX10_runShelve_67
  · have cd_c_1 := of_decide_eq_true c_1
    refine lv_iload_n hx hb dX10_runShelve_11 rfl (lv_at hl 2 rfl) ?_
    refine ro_S (As := [Value.int (iI y1)]) (rest := []) (v := some (Value.int (iI (zB (decide (0 ≤ y1 ∧ y1 ≤ 5)))))) ⟨hx, hb, hml, hown, hts⟩ (c_X10_isShelf l g τ y1 ⟨by omega, by omega⟩) gX10_runShelve_X10_isShelf cd_X10_isShelf rfl ⟨rfl, rfl⟩ ⟨Nat.le_of_ble_eq_true rfl, Nat.le_of_ble_eq_true rfl⟩ hK (fun _ _ h => by cases h) rfl hl rfl (Nat.le_of_ble_eq_true rfl) dX10_runShelve_12 ⟨Nat.le_of_ble_eq_true rfl, Nat.le_of_ble_eq_true rfl⟩ ?_
    refine tl_some ?_
    refine zb_if_eq (tgt := 66) hx hb dX10_runShelve_15 (by decide) (fun c_2 => ?_) (fun c_2 => ?_)
    · have cd_c_2 := of_decide_eq_false c_2
      refine lv_iconst (v := iI 0) hx hb dX10_runShelve_66 (by decide) ?_
      exact rw_zret hx hb hr hlocks hP hS (by first | (have ha : aShelve R z1 y1 x1 = (-2, R) := (by unfold aShelve; rw [if_pos (by omega)]); rw [ha]; exact ⟨⟨rfl, rfl⟩, ⟨false, rfl⟩⟩) | (have ha : aShelve R z1 y1 x1 = (-3, R) := (by unfold aShelve; rw [if_neg (by omega)]; (try simp only [Int.toNat_natCast]); rw [if_pos (by omega)]); rw [ha]; exact ⟨⟨rfl, rfl⟩, ⟨false, rfl⟩⟩) | (have ha : aShelve R z1 y1 x1 = (-4, R) := (by unfold aShelve; rw [if_neg (by omega)]; (try simp only [Int.toNat_natCast]); rw [if_neg (by omega), if_pos hcc]); rw [ha]; exact ⟨⟨rfl, rfl⟩, ⟨false, rfl⟩⟩)) dX10_runShelve_67
    · have cd_c_2 := of_decide_eq_true c_2
      obtain ⟨s1, rfl⟩ := Int.eq_ofNat_of_zero_le (show 0 ≤ z1 by omega)
      obtain ⟨h1, rfl⟩ := Int.eq_ofNat_of_zero_le (show 0 ≤ y1 by omega)
      refine lv_iload_n hx hb dX10_runShelve_18 rfl (lv_at hl 3 rfl) ?_
      refine lv_i2l (v := (iI x1).toInt64) hx hb dX10_runShelve_19 rfl ?_
      refine cv_l (y := iL x1) (i2l_iL ⟨by omega, by omega⟩) ?_
      refine lv_lconst (v := 0) hx hb dX10_runShelve_20 (by decide) ?_
      refine cv_l (y := iL 0) (by decide) ?_
      refine lv_aload_n hx hb dX10_runShelve_21 rfl (lv_at hl 0 rfl) ?_
      refine va_get (D := g) (ci := 10) (v := Value.ref (ma 2)) (C := RX10) (T := TX10) (N := 18) hx hb hts in_X10_runShelve_X10 hown hK.1 hP 0 (rfl) rfl 2 (by decide) (hts _ (List.mem_of_getElem? (i := 1) rfl) : (Cond.fieldLink RX10 13 "CordSealsModel" "trial" "[I").before _ s = true) (fun _ h9 => h9) rfl dX10_runShelve_22 ?_
      refine lv_iload_n hx hb dX10_runShelve_25 rfl (lv_at hl 1 rfl) ?_
      refine lv_iload_n hx hb dX10_runShelve_26 rfl (lv_at hl 2 rfl) ?_
      refine ro_S (As := [Value.ref (ma 2), Value.int (iI (s1 : Int)), Value.int (iI (h1 : Int))]) (rest := [Value.long (iL 0), Value.long (iL x1)]) (v := some (Value.int (iI (oth R h1 (s1 : Int))))) ⟨hx, hb, hml, hown, hts⟩ (e_X10_others l g τ (ma 2) R hI (s1 : Int) ⟨by omega, by omega⟩ h1 (by omega)) gX10_runShelve_X10_others cd_X10_others rfl ⟨rfl, rfl⟩ ⟨Nat.le_of_ble_eq_true rfl, Nat.le_of_ble_eq_true rfl⟩ hK (cut_P (is := [1]) hP rfl) rfl hl rfl (Nat.le_of_ble_eq_true rfl) dX10_runShelve_27 ⟨Nat.le_of_ble_eq_true rfl, Nat.le_of_ble_eq_true rfl⟩ ?_
      refine tl_some ?_
      have hoth := oth_r hI h1 (by omega) (s1 : Int)
      refine lv_i2l (v := (iI (oth R h1 (s1 : Int))).toInt64) hx hb dX10_runShelve_30 rfl ?_
      refine cv_l (y := iL (oth R h1 (s1 : Int))) (i2l_iL ⟨by omega, by omega⟩) ?_
      refine ro_S (As := [Value.long (iL x1), Value.long (iL 0), Value.long (iL (oth R h1 (s1 : Int)))]) (rest := []) (v := some (Value.int (iI (zB (decide (0 ≤ x1 ∧ x1 ≤ (oth R h1 (s1 : Int)))))))) ⟨hx, hb, hml, hown, hts⟩ (c_X10_in l g τ x1 0 (oth R h1 (s1 : Int)) ⟨by omega, by omega⟩ ⟨by omega, by omega⟩ ⟨by omega, by omega⟩) gX10_runShelve_X10_in cd_X10_in rfl ⟨rfl, rfl⟩ ⟨Nat.le_of_ble_eq_true rfl, Nat.le_of_ble_eq_true rfl⟩ hK (fun _ _ h => by cases h) rfl hl rfl (Nat.le_of_ble_eq_true rfl) dX10_runShelve_31 ⟨Nat.le_of_ble_eq_true rfl, Nat.le_of_ble_eq_true rfl⟩ ?_
      refine tl_some ?_
      refine zb_if_eq (tgt := 66) hx hb dX10_runShelve_34 (by decide) (fun c_3 => ?_) (fun c_3 => ?_)
      · have cd_c_3 := of_decide_eq_false c_3
        refine lv_iconst (v := iI 0) hx hb dX10_runShelve_66 (by decide) ?_
        exact rw_zret hx hb hr hlocks hP hS (by first | (have ha : aShelve R (s1 : Int) (h1 : Int) x1 = (-2, R) := (by unfold aShelve; rw [if_pos (by omega)]); rw [ha]; exact ⟨⟨rfl, rfl⟩, ⟨false, rfl⟩⟩) | (have ha : aShelve R (s1 : Int) (h1 : Int) x1 = (-3, R) := (by unfold aShelve; rw [if_neg (by omega)]; (try simp only [Int.toNat_natCast]); rw [if_pos (by omega)]); rw [ha]; exact ⟨⟨rfl, rfl⟩, ⟨false, rfl⟩⟩) | (have ha : aShelve R (s1 : Int) (h1 : Int) x1 = (-4, R) := (by unfold aShelve; rw [if_neg (by omega)]; (try simp only [Int.toNat_natCast]); rw [if_neg (by omega), if_pos hcc]); rw [ha]; exact ⟨⟨rfl, rfl⟩, ⟨false, rfl⟩⟩)) dX10_runShelve_67
      · have cd_c_3 := of_decide_eq_true c_3
        obtain ⟨k1, rfl⟩ := Int.eq_ofNat_of_zero_le (show 0 ≤ x1 by omega)
        refine lv_aload_n hx hb dX10_runShelve_37 rfl (lv_at hl 0 rfl) ?_
        refine va_get (D := g) (ci := 10) (v := Value.ref (ma 2)) (C := RX10) (T := TX10) (N := 18) hx hb hts in_X10_runShelve_X10 hown hK.1 hP 0 (rfl) rfl 2 (by decide) (hts _ (List.mem_of_getElem? (i := 1) rfl) : (Cond.fieldLink RX10 13 "CordSealsModel" "trial" "[I").before _ s = true) (fun _ h9 => h9) rfl dX10_runShelve_38 ?_
        refine lv_iload_n hx hb dX10_runShelve_41 rfl (lv_at hl 1 rfl) ?_
        refine lv_iload_n hx hb dX10_runShelve_42 rfl (lv_at hl 2 rfl) ?_
        refine ro_S (As := [Value.ref (ma 2), Value.int (iI (s1 : Int)), Value.int (iI (h1 : Int))]) (rest := []) (v := some (Value.int (iI (zB (decide (oth R h1 (s1 : Int) < 6) && !othH R h1 s1))))) ⟨hx, hb, hml, hown, hts⟩ (e_X10_canShelve l g τ (ma 2) R hI s1 (by omega) h1 (by omega)) gX10_runShelve_X10_canShelve cd_X10_canShelve rfl ⟨rfl, rfl⟩ ⟨Nat.le_of_ble_eq_true rfl, Nat.le_of_ble_eq_true rfl⟩ hK (cut_P (is := [1]) hP rfl) rfl hl rfl (Nat.le_of_ble_eq_true rfl) dX10_runShelve_43 ⟨Nat.le_of_ble_eq_true rfl, Nat.le_of_ble_eq_true rfl⟩ ?_
        refine tl_some ?_
        refine zb_if_eq (tgt := 66) hx hb dX10_runShelve_46 (by decide) (fun c_4 => ?_) (fun c_4 => ?_)
        · have _ := c_4
          have hcc := cP_f c_4
          refine lv_iconst (v := iI 0) hx hb dX10_runShelve_66 (by decide) ?_
          exact rw_zret hx hb hr hlocks hP hS (by first | (have ha : aShelve R (s1 : Int) (h1 : Int) (k1 : Int) = (-2, R) := (by unfold aShelve; rw [if_pos (by omega)]); rw [ha]; exact ⟨⟨rfl, rfl⟩, ⟨false, rfl⟩⟩) | (have ha : aShelve R (s1 : Int) (h1 : Int) (k1 : Int) = (-3, R) := (by unfold aShelve; rw [if_neg (by omega)]; (try simp only [Int.toNat_natCast]); rw [if_pos (by omega)]); rw [ha]; exact ⟨⟨rfl, rfl⟩, ⟨false, rfl⟩⟩) | (have ha : aShelve R (s1 : Int) (h1 : Int) (k1 : Int) = (-4, R) := (by unfold aShelve; rw [if_neg (by omega)]; (try simp only [Int.toNat_natCast]); rw [if_neg (by omega), if_pos hcc]); rw [ha]; exact ⟨⟨rfl, rfl⟩, ⟨false, rfl⟩⟩)) dX10_runShelve_67
        · have _ := c_4
          have hcc := cP_t c_4
          have hir : inR (rmR R (s1 : Int)) h1 k1 (s1 : Int) 18 h1 = oth R h1 (s1 : Int) + 1 := by rw [in18_own, rm_18 hI (by omega)]
          refine lv_aload_n hx hb dX10_runShelve_49 rfl (lv_at hl 0 rfl) ?_
          refine va_get (D := g) (ci := 10) (v := Value.ref (ma 2)) (C := RX10) (T := TX10) (N := 18) hx hb hts in_X10_runShelve_X10 hown hK.1 hP 0 (rfl) rfl 2 (by decide) (hts _ (List.mem_of_getElem? (i := 1) rfl) : (Cond.fieldLink RX10 13 "CordSealsModel" "trial" "[I").before _ s = true) (fun _ h9 => h9) rfl dX10_runShelve_50 ?_
          refine lv_iload_n hx hb dX10_runShelve_53 rfl (lv_at hl 1 rfl) ?_
          refine lv_iload_n hx hb dX10_runShelve_54 rfl (lv_at hl 2 rfl) ?_
          refine lv_iload_n hx hb dX10_runShelve_55 rfl (lv_at hl 3 rfl) ?_
          refine rw_S (As := [Value.ref (ma 2), Value.int (iI (s1 : Int)), Value.int (iI (h1 : Int)), Value.int (iI (k1 : Int))]) (rest := []) ⟨hx, hb, hml, hown, hts⟩ (c_X10_goShelve l g τ (ma 2) R hI s1 (by omega) h1 (by omega) k1 (by omega) (by omega)) gX10_runShelve_X10_goShelve cd_X10_goShelve rfl ⟨rfl, rfl⟩ ⟨Nat.le_of_ble_eq_true rfl, Nat.le_of_ble_eq_true rfl⟩ hK hP hD hS [1] (rfl) (by decide) rfl hl rfl (Nat.le_of_ble_eq_true rfl) dX10_runShelve_56 ⟨Nat.le_of_ble_eq_true rfl, Nat.le_of_ble_eq_true rfl⟩ (fun v w h => by rw [h.2]; exact f_fl _ _ _ _) (fun v w1 H locs hZ hP hD hS => ?_)
          obtain ⟨rfl, rfl⟩ := hZ
          have hP : va_P g vwCl ([moO ma M, arC (ma 2) (τ 0) 291 (flR (inR (rmR R (s1 : Int)) h1 k1 (s1 : Int)))]) H := hP
          have hD : va_D A ([moO ma M, arC (ma 2) (τ 0) 291 (flR (inR (rmR R (s1 : Int)) h1 k1 (s1 : Int)))]) := hD
          refine tl_some ?_
          refine zi_if_le (tgt := 66) hx hb ⟨by omega, by omega⟩ dX10_runShelve_59 (by decide) (fun c_5 => ?_) (fun c_5 => ?_)
          · have _ := c_5
            refine lv_iconst (v := iI 0) hx hb dX10_runShelve_66 (by decide) ?_
            exact rw_zret hx hb hr hlocks hP hS (by first | (exfalso; omega)) dX10_runShelve_67
          · have _ := c_5
            refine lv_iconst (v := iI 1) hx hb dX10_runShelve_62 (by decide) ?_
            refine lv_goto (tgt := 67) hx hb dX10_runShelve_63 (by decide) ?_
            exact rw_zret hx hb hr hlocks hP hS (by first | (have ha : aShelve R (s1 : Int) (h1 : Int) (k1 : Int) = (inR (rmR R (s1 : Int)) h1 k1 (s1 : Int) 18 h1, inR (rmR R (s1 : Int)) h1 k1 (s1 : Int)) := (by unfold aShelve; rw [if_neg (by omega)]; (try simp only [Int.toNat_natCast]); rw [if_neg (by omega), if_neg hcc]); rw [ha]; dsimp only; exact ⟨⟨by rw [decide_eq_true (show (0 : Int) ≤ inR (rmR R (s1 : Int)) h1 k1 (s1 : Int) 18 h1 by omega)]; rfl, rfl⟩, ⟨true, rfl⟩⟩)) dX10_runShelve_67

theorem cd_X10_runSet : cd yX10_runSet 2 := by decide +kernel
theorem in_X10_runSet_X10 : ∀ w ∈ wsX100, w ∈ wsX10_runSet := by decide +kernel
set_option maxHeartbeats 2000000 in
set_option maxRecDepth 100000 in
theorem c_X10_runSet (l : Launch) (g : va_G) (τ : Nat → ClassId) (ma : Nat → Nat) (M : Nat → Int) (R : Nat → Nat → Int) (hI : SI R) (z1 : Int) (rz1 : -2147483648 ≤ z1 ∧ z1 < 2147483648) (y1 : Int) (hy1 : 0 ≤ y1 ∧ y1 ≤ 99)  : Met l yX10_runSet wsX10_runSet { frames := 1, cells := 0, slots := 0, locals := 25 } (va_Pc [Value.ref (ma 0), Value.int (iI z1), Value.int (iI y1)] (rwW g τ ([moO ma M, arC (ma 2) (τ 0) 291 (flR R)]))) (rwQ g (fun v w => v = some (Value.int (iI (zB (decide (0 ≤ (aSet R z1 y1).1))))) ∧ w = [moO ma M, arC (ma 2) (τ 0) 291 (flR (aSet R z1 y1).2)]) (inW ([moO ma M, arC (ma 2) (τ 0) 291 (flR R)]))) 0 0 (inW ([moO ma M, arC (ma 2) (τ 0) 291 (flR R)])) := by
  have hB := hI.hB
  have hr0 := hI.r
  have hd0 := hI.d
  have hs0 := hI.s
  refine rwMet (cc := cX10_runSet) (maxL := 3) (ret := (some .boolean)) (lv := [(0, Value.ref (ma 0)), (1, Value.int (iI z1)), (2, Value.int (iI y1))]) (by decide) rfl (Nat.le_of_ble_eq_true rfl) rfl ?_
  intro p e s m below meth c hx hb hr hml hts hown hlocks A H hP hD hS hK ls hl
  refine lv_iload_n hx hb dX10_runSet_0 rfl (lv_at hl 1 rfl) ?_
  refine lv_i2l (v := (iI z1).toInt64) hx hb dX10_runSet_1 rfl ?_
  refine cv_l (y := iL z1) (i2l_iL ⟨by omega, by omega⟩) ?_
  refine lv_lconst (v := 0) hx hb dX10_runSet_2 (by decide) ?_
  refine cv_l (y := iL 0) (by decide) ?_
  refine lv_lconst (v := 1) hx hb dX10_runSet_3 (by decide) ?_
  refine cv_l (y := iL 1) (by decide) ?_
  refine ro_S (As := [Value.long (iL z1), Value.long (iL 0), Value.long (iL 1)]) (rest := []) (v := some (Value.int (iI (zB (decide (0 ≤ z1 ∧ z1 ≤ 1)))))) ⟨hx, hb, hml, hown, hts⟩ (c_X10_in l g τ z1 0 1 ⟨by omega, by omega⟩ ⟨by omega, by omega⟩ ⟨by omega, by omega⟩) gX10_runSet_X10_in cd_X10_in rfl ⟨rfl, rfl⟩ ⟨Nat.le_of_ble_eq_true rfl, Nat.le_of_ble_eq_true rfl⟩ hK (fun _ _ h => by cases h) rfl hl rfl (Nat.le_of_ble_eq_true rfl) dX10_runSet_4 ⟨Nat.le_of_ble_eq_true rfl, Nat.le_of_ble_eq_true rfl⟩ ?_
  refine tl_some ?_
  refine zb_if_eq (tgt := 26) hx hb dX10_runSet_7 (by decide) (fun c_1 => ?_) (fun c_1 => ?_)
  · have cd_c_1 := of_decide_eq_false c_1
    refine lv_iconst (v := iI 0) hx hb dX10_runSet_26 (by decide) ?_
    exact rw_zret hx hb hr hlocks hP hS (by first | (have ha : aSet R z1 y1 = (-3, R) := (by unfold aSet; rw [if_pos (by omega)]); rw [ha]; exact ⟨⟨rfl, rfl⟩, ⟨false, rfl⟩⟩)) dX10_runSet_27
  · have cd_c_1 := of_decide_eq_true c_1
    obtain ⟨a1, rfl⟩ := Int.eq_ofNat_of_zero_le (show 0 ≤ z1 by omega)
    have hw0 := hI.w
    have hwa : 0 ≤ R 20 a1 ∧ R 20 a1 ≤ 99 := by (have h2 : a1 = 0 ∨ a1 = 1 := by omega); rcases h2 with rfl | rfl <;> omega
    refine lv_aload_n hx hb dX10_runSet_10 rfl (lv_at hl 0 rfl) ?_
    refine va_get (D := g) (ci := 10) (v := Value.ref (ma 2)) (C := RX10) (T := TX10) (N := 18) hx hb hts in_X10_runSet_X10 hown hK.1 hP 0 (rfl) rfl 2 (by decide) (hts _ (List.mem_of_getElem? (i := 1) rfl) : (Cond.fieldLink RX10 13 "CordSealsModel" "trial" "[I").before _ s = true) (fun _ h9 => h9) rfl dX10_runSet_11 ?_
    refine lv_iload_n hx hb dX10_runSet_14 rfl (lv_at hl 1 rfl) ?_
    refine lv_iload_n hx hb dX10_runSet_15 rfl (lv_at hl 2 rfl) ?_
    refine rw_S (As := [Value.ref (ma 2), Value.int (iI (a1 : Int)), Value.int (iI y1)]) (rest := []) ⟨hx, hb, hml, hown, hts⟩ (c_X10_goSet l g τ (ma 2) R hI a1 (by omega) y1 ⟨by omega, by omega⟩) gX10_runSet_X10_goSet cd_X10_goSet rfl ⟨rfl, rfl⟩ ⟨Nat.le_of_ble_eq_true rfl, Nat.le_of_ble_eq_true rfl⟩ hK hP hD hS [1] (rfl) (by decide) rfl hl rfl (Nat.le_of_ble_eq_true rfl) dX10_runSet_16 ⟨Nat.le_of_ble_eq_true rfl, Nat.le_of_ble_eq_true rfl⟩ (fun v w h => by rw [h.2]; exact f_fl _ _ _ _) (fun v w1 H locs hZ hP hD hS => ?_)
    obtain ⟨rfl, rfl⟩ := hZ
    have hP : va_P g vwCl ([moO ma M, arC (ma 2) (τ 0) 291 (flR (u2 R 20 (updZ (R 20) a1 y1)))]) H := hP
    have hD : va_D A ([moO ma M, arC (ma 2) (τ 0) 291 (flR (u2 R 20 (updZ (R 20) a1 y1)))]) := hD
    refine tl_some ?_
    refine zi_if_lt (tgt := 26) hx hb ⟨by omega, by omega⟩ dX10_runSet_19 (by decide) (fun c_2 => ?_) (fun c_2 => ?_)
    · have _ := c_2
      refine lv_iconst (v := iI 0) hx hb dX10_runSet_26 (by decide) ?_
      exact rw_zret hx hb hr hlocks hP hS (by first | (exfalso; omega)) dX10_runSet_27
    · have _ := c_2
      refine lv_iconst (v := iI 1) hx hb dX10_runSet_22 (by decide) ?_
      refine lv_goto (tgt := 27) hx hb dX10_runSet_23 (by decide) ?_
      exact rw_zret hx hb hr hlocks hP hS (by first | (have ha : aSet R (a1 : Int) y1 = (R 20 a1, u2 R 20 (updZ (R 20) a1 y1)) := (by unfold aSet; rw [if_neg (by omega)]; (try simp only [Int.toNat_natCast])); rw [ha]; dsimp only; exact ⟨⟨by rw [decide_eq_true (show (0 : Int) ≤ R 20 a1 by omega)]; rfl, rfl⟩, ⟨true, rfl⟩⟩)) dX10_runSet_27
