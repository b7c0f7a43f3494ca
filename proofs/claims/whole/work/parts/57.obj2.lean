theorem cd_X10_goShelve : cd yX10_goShelve 4 := by decide +kernel
set_option maxHeartbeats 1000000 in
set_option maxRecDepth 100000 in
theorem c_X10_goShelve (l : Launch) (g : va_G) (τ : Nat → ClassId) (fa : Nat) (R : Nat → Nat → Int) (hI : SI R) (s1 : Nat) (hs : (s1 : Int) < R 10 0) (h1 : Nat) (hh : h1 < 6) (k1 : Nat) (hk1 : (k1 : Int) ≤ oth R h1 (s1 : Int)) (hm1 : oth R h1 (s1 : Int) < 6)  : Met l yX10_goShelve wsX10_goShelve { frames := 3, cells := 0, slots := 0, locals := 71 } (va_Pc [Value.ref fa, Value.int (iI (s1 : Int)), Value.int (iI (h1 : Int)), Value.int (iI (k1 : Int))] (rwW g τ (flW fa R τ))) (rwQ g (fun v w => v = some (Value.int (iI (inR (rmR R (s1 : Int)) h1 k1 (s1 : Int) 18 h1))) ∧ w = flW fa (inR (rmR R (s1 : Int)) h1 k1 (s1 : Int)) τ) (inW (flW fa R τ))) 0 0 (inW (flW fa R τ)) := by
  have hB := hI.hB
  have hr0 := hI.r
  have hd0 := hI.d
  have hs0 := hI.s
  have hI2 := SI_rm hI (s1 : Int)
  have e18 := rm_18 hI (t := (s1 : Int)) hh
  have hos := oth_r hI h1 hh (s1 : Int)
  have hsn : shN (rmR R (s1 : Int)) h1 = (rmR R (s1 : Int) 18 h1).toNat := rfl
  refine rwMet (cc := cX10_goShelve) (maxL := 5) (ret := (some .int)) (lv := [(0, Value.ref fa), (1, Value.int (iI (s1 : Int))), (2, Value.int (iI (h1 : Int))), (3, Value.int (iI (k1 : Int)))]) (by decide) rfl (Nat.le_of_ble_eq_true rfl) rfl ?_
  intro p e s m below meth c hx hb hr hml hts hown hlocks A H hP hD hS hK ls hl
  refine lv_aload_n hx hb dX10_goShelve_0 rfl (lv_at hl 0 rfl) ?_
  refine lv_iload_n hx hb dX10_goShelve_1 rfl (lv_at hl 1 rfl) ?_
  refine rw_S (As := [Value.ref fa, Value.int (iI (s1 : Int))]) (rest := []) ⟨hx, hb, hml, hown, hts⟩ (c_X10_goTake l g τ fa R hI (s1 : Int) ⟨by omega, by omega⟩) gX10_goShelve_X10_goTake cd_X10_goTake rfl ⟨rfl, rfl⟩ ⟨Nat.le_of_ble_eq_true rfl, Nat.le_of_ble_eq_true rfl⟩ hK hP hD hS [0] (rfl) (by decide) rfl hl rfl (Nat.le_of_ble_eq_true rfl) dX10_goShelve_2 ⟨Nat.le_of_ble_eq_true rfl, Nat.le_of_ble_eq_true rfl⟩ (fun v w h => by rw [h.2]; exact f_fl _ _ _ _) (fun v w1 H locs hZ hP hD hS => ?_)
  obtain ⟨rfl, rfl⟩ := hZ
  have hP : va_P g vwCl (flW fa (rmR R (s1 : Int)) τ) H := hP
  have hD : va_D A (flW fa (rmR R (s1 : Int)) τ) := hD
  refine tl_none ?_
  generalize hG : rmR R (s1 : Int) = G at hP hD hI2 e18 hsn ⊢
  refine lv_aload_n hx hb dX10_goShelve_5 rfl (lv_at hl 0 rfl) ?_
  refine lv_sipush (v := iI 249) hx hb dX10_goShelve_6 (by decide) ?_
  refine lv_iload_n hx hb dX10_goShelve_9 rfl (lv_at hl 2 rfl) ?_
  refine zi_add hx hb dX10_goShelve_10 ?_
  refine zf_ald hx hb hK hP 0 (f := flR G) rfl (249 + h1) (by omega) (by omega) (by decide) (z := G 18 h1) (fl_18 (i := h1) (by omega) (by omega)) dX10_goShelve_11 ?_
  refine cv_i (y := iI ((shN G h1 : Nat) : Int)) (congrArg iI (by omega)) ?_
  refine lv_istore (lv' := [(4, Value.int (iI ((shN G h1 : Nat) : Int))), (0, Value.ref fa), (1, Value.int (iI (s1 : Int))), (2, Value.int (iI (h1 : Int))), (3, Value.int (iI (k1 : Int)))]) hx hb dX10_goShelve_12 hl (by decide) rfl (fun ls hl => ?_)
  have h0_1 : ((shN G h1 - 0 : Nat) : Int) = ((shN G h1 : Nat) : Int) := by omega
  have hP : va_P g vwCl (flW fa (u2 G 19 (shr (G 19) (h1 * 6 + (shN G h1 - 0)) (h1 * 6 + shN G h1))) τ) H := by rw [Nat.sub_zero, rs_0]; exact hP
  have hD : va_D A (flW fa (u2 G 19 (shr (G 19) (h1 * 6 + (shN G h1 - 0)) (h1 * 6 + shN G h1))) τ) := by rw [Nat.sub_zero, rs_0]; exact hD
  refine lp_upW (fun i => [(4, Value.int (iI ((shN G h1 - i : Nat) : Int))), (0, Value.ref fa), (1, Value.int (iI (s1 : Int))), (2, Value.int (iI (h1 : Int))), (3, Value.int (iI (k1 : Int)))]) (fun i => flW fa (u2 G 19 (shr (G 19) (h1 * 6 + (shN G h1 - i)) (h1 * 6 + shN G h1))) τ) (fun i => True) (shN G h1 - k1) (0) (by omega) hP hD hS (by first | trivial | (intro j hj; omega)) (lv_eq (lv_sub hl [0, 1, 2, 3, 4] rfl) (by show [(4, Value.int (iI ((shN G h1 - 0 : Nat) : Int))), (0, Value.ref fa), (1, Value.int (iI (s1 : Int))), (2, Value.int (iI (h1 : Int))), (3, Value.int (iI (k1 : Int)))] = [(4, Value.int (iI ((shN G h1 : Nat) : Int))), (0, Value.ref fa), (1, Value.int (iI (s1 : Int))), (2, Value.int (iI (h1 : Int))), (3, Value.int (iI (k1 : Int)))]; rw [h0_1])) (fun i h0_i hi_i hI_i ih_14 H locs hP hD hS ls hl => ?_)
  refine lv_iload hx hb dX10_goShelve_14 (lv_at hl 0 rfl) ?_
  refine lv_iload_n hx hb dX10_goShelve_16 rfl (lv_at hl 4 rfl) ?_
  refine zi_icmp_le (tgt := 54) hx hb ⟨by omega, by omega⟩ ⟨by omega, by omega⟩ dX10_goShelve_17 (by decide) (fun c_2 => ?_) (fun c_2 => ?_)
  · have _ := c_2
    have h0_i : i = shN G h1 - k1 := by omega
    have e1 : shN G h1 - i = k1 := by omega
    rw [e1] at hP hD
    refine lv_aload_n hx hb dX10_goShelve_54 rfl (lv_at hl 1 rfl) ?_
    refine lv_sipush (v := iI 255) hx hb dX10_goShelve_55 (by decide) ?_
    refine lv_bipush (v := iI 6) hx hb dX10_goShelve_58 (by decide) ?_
    refine lv_iload_n hx hb dX10_goShelve_60 rfl (lv_at hl 3 rfl) ?_
    refine zi_mul hx hb dX10_goShelve_61 ?_
    refine zi_add hx hb dX10_goShelve_62 ?_
    refine lv_iload_n hx hb dX10_goShelve_63 rfl (lv_at hl 4 rfl) ?_
    refine zi_add hx hb dX10_goShelve_64 ?_
    refine lv_iload_n hx hb dX10_goShelve_65 rfl (lv_at hl 2 rfl) ?_
    refine zf_ast hx hb hK hP hD hS 0 (f := flR (u2 G 19 (shr (G 19) (h1 * 6 + k1) (h1 * 6 + shN G h1)))) (f2 := flR (u2 (u2 G 19 (shr (G 19) (h1 * 6 + k1) (h1 * 6 + shN G h1))) 19 (updZ ((u2 G 19 (shr (G 19) (h1 * 6 + k1) (h1 * 6 + shN G h1))) 19) (h1 * 6 + k1) (s1 : Int)))) rfl ((255 + (6 * h1)) + k1) (by omega) (by omega) (by decide) (fu_19 (by omega) (by omega)) dX10_goShelve_66 (wo := flW fa (u2 (u2 G 19 (shr (G 19) (h1 * 6 + k1) (h1 * 6 + shN G h1))) 19 (updZ ((u2 G 19 (shr (G 19) (h1 * 6 + k1) (h1 * 6 + shN G h1))) 19) (h1 * 6 + k1) (s1 : Int))) τ) rfl (fun H locs hP hD hS => ?_)
    refine lv_aload_n hx hb dX10_goShelve_67 rfl (lv_at hl 1 rfl) ?_
    refine lv_sipush (v := iI 249) hx hb dX10_goShelve_68 (by decide) ?_
    refine lv_iload_n hx hb dX10_goShelve_71 rfl (lv_at hl 3 rfl) ?_
    refine zi_add hx hb dX10_goShelve_72 ?_
    refine lv_dup2_11 hx hb dX10_goShelve_73 rfl rfl ?_
    refine zf_ald hx hb hK hP 0 (f := flR (u2 (u2 G 19 (shr (G 19) (h1 * 6 + k1) (h1 * 6 + shN G h1))) 19 (updZ ((u2 G 19 (shr (G 19) (h1 * 6 + k1) (h1 * 6 + shN G h1))) 19) (h1 * 6 + k1) (s1 : Int)))) rfl (249 + h1) (by omega) (by omega) (by decide) (z := (u2 (u2 G 19 (shr (G 19) (h1 * 6 + k1) (h1 * 6 + shN G h1))) 19 (updZ ((u2 G 19 (shr (G 19) (h1 * 6 + k1) (h1 * 6 + shN G h1))) 19) (h1 * 6 + k1) (s1 : Int))) 18 h1) (fl_18 (i := h1) (by omega) (by omega)) dX10_goShelve_74 ?_
    refine lv_iconst (v := iI 1) hx hb dX10_goShelve_75 (by decide) ?_
    refine zi_add hx hb dX10_goShelve_76 ?_
    refine zf_ast hx hb hK hP hD hS 0 (f := flR (u2 (u2 G 19 (shr (G 19) (h1 * 6 + k1) (h1 * 6 + shN G h1))) 19 (updZ ((u2 G 19 (shr (G 19) (h1 * 6 + k1) (h1 * 6 + shN G h1))) 19) (h1 * 6 + k1) (s1 : Int)))) (f2 := flR (u2 (u2 (u2 G 19 (shr (G 19) (h1 * 6 + k1) (h1 * 6 + shN G h1))) 19 (updZ ((u2 G 19 (shr (G 19) (h1 * 6 + k1) (h1 * 6 + shN G h1))) 19) (h1 * 6 + k1) (s1 : Int))) 18 (updZ ((u2 (u2 G 19 (shr (G 19) (h1 * 6 + k1) (h1 * 6 + shN G h1))) 19 (updZ ((u2 G 19 (shr (G 19) (h1 * 6 + k1) (h1 * 6 + shN G h1))) 19) (h1 * 6 + k1) (s1 : Int))) 18) h1 (((u2 (u2 G 19 (shr (G 19) (h1 * 6 + k1) (h1 * 6 + shN G h1))) 19 (updZ ((u2 G 19 (shr (G 19) (h1 * 6 + k1) (h1 * 6 + shN G h1))) 19) (h1 * 6 + k1) (s1 : Int))) 18 h1) + 1)))) rfl (249 + h1) (by omega) (by omega) (by decide) (fu_18 (by omega) (by omega)) dX10_goShelve_77 (wo := flW fa (u2 (u2 (u2 G 19 (shr (G 19) (h1 * 6 + k1) (h1 * 6 + shN G h1))) 19 (updZ ((u2 G 19 (shr (G 19) (h1 * 6 + k1) (h1 * 6 + shN G h1))) 19) (h1 * 6 + k1) (s1 : Int))) 18 (updZ ((u2 (u2 G 19 (shr (G 19) (h1 * 6 + k1) (h1 * 6 + shN G h1))) 19 (updZ ((u2 G 19 (shr (G 19) (h1 * 6 + k1) (h1 * 6 + shN G h1))) 19) (h1 * 6 + k1) (s1 : Int))) 18) h1 (((u2 (u2 G 19 (shr (G 19) (h1 * 6 + k1) (h1 * 6 + shN G h1))) 19 (updZ ((u2 G 19 (shr (G 19) (h1 * 6 + k1) (h1 * 6 + shN G h1))) 19) (h1 * 6 + k1) (s1 : Int))) 18 h1) + 1))) τ) rfl (fun H locs hP hD hS => ?_)
    refine lv_aload_n hx hb dX10_goShelve_78 rfl (lv_at hl 1 rfl) ?_
    refine lv_sipush (v := iI 249) hx hb dX10_goShelve_79 (by decide) ?_
    refine lv_iload_n hx hb dX10_goShelve_82 rfl (lv_at hl 3 rfl) ?_
    refine zi_add hx hb dX10_goShelve_83 ?_
    refine zf_ald hx hb hK hP 0 (f := flR (u2 (u2 (u2 G 19 (shr (G 19) (h1 * 6 + k1) (h1 * 6 + shN G h1))) 19 (updZ ((u2 G 19 (shr (G 19) (h1 * 6 + k1) (h1 * 6 + shN G h1))) 19) (h1 * 6 + k1) (s1 : Int))) 18 (updZ ((u2 (u2 G 19 (shr (G 19) (h1 * 6 + k1) (h1 * 6 + shN G h1))) 19 (updZ ((u2 G 19 (shr (G 19) (h1 * 6 + k1) (h1 * 6 + shN G h1))) 19) (h1 * 6 + k1) (s1 : Int))) 18) h1 (((u2 (u2 G 19 (shr (G 19) (h1 * 6 + k1) (h1 * 6 + shN G h1))) 19 (updZ ((u2 G 19 (shr (G 19) (h1 * 6 + k1) (h1 * 6 + shN G h1))) 19) (h1 * 6 + k1) (s1 : Int))) 18 h1) + 1)))) rfl (249 + h1) (by omega) (by omega) (by decide) (z := (u2 (u2 (u2 G 19 (shr (G 19) (h1 * 6 + k1) (h1 * 6 + shN G h1))) 19 (updZ ((u2 G 19 (shr (G 19) (h1 * 6 + k1) (h1 * 6 + shN G h1))) 19) (h1 * 6 + k1) (s1 : Int))) 18 (updZ ((u2 (u2 G 19 (shr (G 19) (h1 * 6 + k1) (h1 * 6 + shN G h1))) 19 (updZ ((u2 G 19 (shr (G 19) (h1 * 6 + k1) (h1 * 6 + shN G h1))) 19) (h1 * 6 + k1) (s1 : Int))) 18) h1 (((u2 (u2 G 19 (shr (G 19) (h1 * 6 + k1) (h1 * 6 + shN G h1))) 19 (updZ ((u2 G 19 (shr (G 19) (h1 * 6 + k1) (h1 * 6 + shN G h1))) 19) (h1 * 6 + k1) (s1 : Int))) 18 h1) + 1))) 18 h1) (fl_18 (i := h1) (by omega) (by omega)) dX10_goShelve_84 ?_
    exact rw_iret hx hb hr hlocks hP hS (⟨rfl, by rw [u2_sm]; rfl⟩) dX10_goShelve_85
  · have _ := c_2
    have hl_i : i < shN G h1 - k1 := by omega
    refine lv_aload_n hx hb dX10_goShelve_20 rfl (lv_at hl 1 rfl) ?_
    refine lv_sipush (v := iI 255) hx hb dX10_goShelve_21 (by decide) ?_
    refine lv_bipush (v := iI 6) hx hb dX10_goShelve_24 (by decide) ?_
    refine lv_iload_n hx hb dX10_goShelve_26 rfl (lv_at hl 3 rfl) ?_
    refine zi_mul hx hb dX10_goShelve_27 ?_
    refine zi_add hx hb dX10_goShelve_28 ?_
    refine lv_iload hx hb dX10_goShelve_29 (lv_at hl 0 rfl) ?_
    refine zi_add hx hb dX10_goShelve_31 ?_
    refine lv_aload_n hx hb dX10_goShelve_32 rfl (lv_at hl 1 rfl) ?_
    refine lv_sipush (v := iI 255) hx hb dX10_goShelve_33 (by decide) ?_
    refine lv_bipush (v := iI 6) hx hb dX10_goShelve_36 (by decide) ?_
    refine lv_iload_n hx hb dX10_goShelve_38 rfl (lv_at hl 3 rfl) ?_
    refine zi_mul hx hb dX10_goShelve_39 ?_
    refine zi_add hx hb dX10_goShelve_40 ?_
    refine lv_iload hx hb dX10_goShelve_41 (lv_at hl 0 rfl) ?_
    refine zi_add hx hb dX10_goShelve_43 ?_
    refine lv_iconst (v := iI 1) hx hb dX10_goShelve_44 (by decide) ?_
    refine zi_sub hx hb dX10_goShelve_45 ?_
    refine cv_i (y := iI ((255 + (h1 * 6 + (shN G h1 - i - 1)) : Nat) : Int)) (congrArg iI (by omega)) ?_
    refine zf_ald hx hb hK hP 0 (f := flR (u2 G 19 (shr (G 19) (h1 * 6 + (shN G h1 - i)) (h1 * 6 + shN G h1)))) rfl (255 + (h1 * 6 + (shN G h1 - i - 1))) (rfl) (by omega) (by decide) (z := (u2 G 19 (shr (G 19) (h1 * 6 + (shN G h1 - i)) (h1 * 6 + shN G h1))) 19 (h1 * 6 + (shN G h1 - i - 1))) (fl_19 (i := h1 * 6 + (shN G h1 - i - 1)) (by omega) (by omega)) dX10_goShelve_46 ?_
    refine zf_ast hx hb hK hP hD hS 0 (f := flR (u2 G 19 (shr (G 19) (h1 * 6 + (shN G h1 - i)) (h1 * 6 + shN G h1)))) (f2 := flR (u2 (u2 G 19 (shr (G 19) (h1 * 6 + (shN G h1 - i)) (h1 * 6 + shN G h1))) 19 (updZ ((u2 G 19 (shr (G 19) (h1 * 6 + (shN G h1 - i)) (h1 * 6 + shN G h1))) 19) (h1 * 6 + (shN G h1 - i)) ((u2 G 19 (shr (G 19) (h1 * 6 + (shN G h1 - i)) (h1 * 6 + shN G h1))) 19 (h1 * 6 + (shN G h1 - i - 1)))))) rfl ((255 + (6 * h1)) + (shN G h1 - i)) (by omega) (by omega) (by decide) (fu_19 (by omega) (by omega)) dX10_goShelve_47 (wo := flW fa (u2 (u2 G 19 (shr (G 19) (h1 * 6 + (shN G h1 - i)) (h1 * 6 + shN G h1))) 19 (updZ ((u2 G 19 (shr (G 19) (h1 * 6 + (shN G h1 - i)) (h1 * 6 + shN G h1))) 19) (h1 * 6 + (shN G h1 - i)) ((u2 G 19 (shr (G 19) (h1 * 6 + (shN G h1 - i)) (h1 * 6 + shN G h1))) 19 (h1 * 6 + (shN G h1 - i - 1))))) τ) rfl (fun H locs hP hD hS => ?_)
    refine zi_inc (v := ((shN G h1 - (i + 1) : Nat) : Int)) (lv' := [(4, Value.int (iI ((shN G h1 - (i + 1) : Nat) : Int))), (0, Value.ref fa), (1, Value.int (iI (s1 : Int))), (2, Value.int (iI (h1 : Int))), (3, Value.int (iI (k1 : Int)))]) hx hb dX10_goShelve_48 hl (k := 0) rfl (by omega) (by decide) rfl (fun ls hl => ?_)
    refine lv_goto (tgt := 14) hx hb dX10_goShelve_51 (by decide) ?_
    have hw_3 : flW fa (u2 (u2 G 19 (shr (G 19) (h1 * 6 + (shN G h1 - i)) (h1 * 6 + shN G h1))) 19 (updZ ((u2 G 19 (shr (G 19) (h1 * 6 + (shN G h1 - i)) (h1 * 6 + shN G h1))) 19) (h1 * 6 + (shN G h1 - i)) ((u2 G 19 (shr (G 19) (h1 * 6 + (shN G h1 - i)) (h1 * 6 + shN G h1))) 19 (h1 * 6 + (shN G h1 - i - 1))))) τ = flW fa (u2 G 19 (shr (G 19) (h1 * 6 + (shN G h1 - (i + 1))) (h1 * 6 + shN G h1))) τ := by rw [show h1 * 6 + (shN G h1 - i - 1) = h1 * 6 + (shN G h1 - i) - 1 from by omega, show h1 * 6 + (shN G h1 - (i + 1)) = h1 * 6 + (shN G h1 - i) - 1 from by omega, ← rs_s _ (by omega) (by omega)]; rfl
    rw [hw_3] at hP hD
    exact ih_14 hl_i (trivial) _ _ _ hP hD hS (lv_eq (lv_sub hl [0, 1, 2, 3, 4] rfl) (by show [(4, Value.int (iI ((shN G h1 - (i + 1) : Nat) : Int))), (0, Value.ref fa), (1, Value.int (iI (s1 : Int))), (2, Value.int (iI (h1 : Int))), (3, Value.int (iI (k1 : Int)))] = [(4, Value.int (iI ((shN G h1 - (i + 1) : Nat) : Int))), (0, Value.ref fa), (1, Value.int (iI (s1 : Int))), (2, Value.int (iI (h1 : Int))), (3, Value.int (iI (k1 : Int)))]; rfl))

theorem cd_X10_gather : cd yX10_gather 3 := by decide +kernel
theorem in_X10_gather_X10 : ∀ w ∈ wsX100, w ∈ wsX10_gather := by decide +kernel
set_option maxHeartbeats 2000000 in
set_option maxRecDepth 100000 in
theorem c_X10_gather (l : Launch) (g : va_G) (τ : Nat → ClassId) (ma : Nat → Nat) (M : Nat → Int) (fa : Nat) (R : Nat → Nat → Int) (hI : SI R) (c1 : Int) (hc1 : -2147483648 ≤ c1 ∧ c1 < 2147483648) (w1 : Int) (hw1 : -2147483648 ≤ w1 ∧ w1 < 2147483648)  : Met l yX10_gather wsX10_gather { frames := 4, cells := 0, slots := 0, locals := 95 } (va_Pc [Value.ref (ma 0), Value.ref fa, Value.int (iI c1), Value.int (iI w1)] (rwW g τ ([moO ma M, arC fa (τ 0) 291 (flR R)]))) (rwQ g (fun v w => v = none ∧ w = [moO ma (gaM R c1 w1 (R 10 0).toNat M), arC fa (τ 0) 291 (flR R)]) (inW ([moO ma M, arC fa (τ 0) 291 (flR R)]))) 0 0 (inW ([moO ma M, arC fa (τ 0) 291 (flR R)])) := by
  have hB := hI.hB
  have hr0 := hI.r
  have hd0 := hI.d
  have hs0 := hI.s
  refine rwMet (cc := cX10_gather) (maxL := 5) (ret := none) (lv := [(0, Value.ref (ma 0)), (1, Value.ref fa), (2, Value.int (iI c1)), (3, Value.int (iI w1))]) (by decide) rfl (Nat.le_of_ble_eq_true rfl) rfl ?_
  intro p e s m below meth c hx hb hr hml hts hown hlocks A H hP hD hS hK ls hl
  refine lv_aload_n hx hb dX10_gather_0 rfl (lv_at hl 0 rfl) ?_
  refine lv_sipush (v := iI 1000) hx hb dX10_gather_1 (by decide) ?_
  refine va_put (D := g) (ci := 10) (v := Value.int (iI 1000)) (ty := .int) (C := RX10) (T := TX10) (N := 18) hx hb hts in_X10_gather_X10 tyX10 tyX10_ok nmX10 hown hK.1 hP hD hS 0 (rfl) rfl 13 (by decide) (hts _ (List.mem_of_getElem? (i := 1) rfl) : (Cond.fieldLink RX10 84 "CordSealsModel" "low" "I").before _ s = true) (fun _ h9 => h9) rfl (by decide +kernel) rfl rfl (Nat.le_of_ble_eq_true rfl) dX10_gather_4 (fun H locs hP hD hS => ?_)
  have hP : va_P g vwCl ([moO ma (updZ M 13 1000), arC fa (τ 0) 291 (flR R)]) H := hP
  have hD : va_D A ([moO ma (updZ M 13 1000), arC fa (τ 0) 291 (flR R)]) := hD
  refine lv_aload_n hx hb dX10_gather_7 rfl (lv_at hl 0 rfl) ?_
  refine lv_sipush (v := iI 1999) hx hb dX10_gather_8 (by decide) ?_
  refine va_put (D := g) (ci := 10) (v := Value.int (iI 1999)) (ty := .int) (C := RX10) (T := TX10) (N := 18) hx hb hts in_X10_gather_X10 tyX10 tyX10_ok nmX10 hown hK.1 hP hD hS 0 (rfl) rfl 14 (by decide) (hts _ (List.mem_of_getElem? (i := 2) rfl) : (Cond.fieldLink RX10 87 "CordSealsModel" "high" "I").before _ s = true) (fun _ h9 => h9) rfl (by decide +kernel) rfl rfl (Nat.le_of_ble_eq_true rfl) dX10_gather_11 (fun H locs hP hD hS => ?_)
  have hP : va_P g vwCl ([moO ma (updZ (updZ M 13 1000) 14 1999), arC fa (τ 0) 291 (flR R)]) H := hP
  have hD : va_D A ([moO ma (updZ (updZ M 13 1000) 14 1999), arC fa (τ 0) 291 (flR R)]) := hD
  refine lv_aload_n hx hb dX10_gather_14 rfl (lv_at hl 0 rfl) ?_
  refine lv_iconst (v := iI 0) hx hb dX10_gather_15 (by decide) ?_
  refine va_put (D := g) (ci := 10) (v := Value.int (iI 0)) (ty := .int) (C := RX10) (T := TX10) (N := 18) hx hb hts in_X10_gather_X10 tyX10 tyX10_ok nmX10 hown hK.1 hP hD hS 0 (rfl) rfl 15 (by decide) (hts _ (List.mem_of_getElem? (i := 3) rfl) : (Cond.fieldLink RX10 90 "CordSealsModel" "mask" "I").before _ s = true) (fun _ h9 => h9) rfl (by decide +kernel) rfl rfl (Nat.le_of_ble_eq_true rfl) dX10_gather_16 (fun H locs hP hD hS => ?_)
  have hP : va_P g vwCl ([moO ma (updZ (updZ (updZ M 13 1000) 14 1999) 15 0), arC fa (τ 0) 291 (flR R)]) H := hP
  have hD : va_D A ([moO ma (updZ (updZ (updZ M 13 1000) 14 1999) 15 0), arC fa (τ 0) 291 (flR R)]) := hD
  refine lv_aload_n hx hb dX10_gather_19 rfl (lv_at hl 0 rfl) ?_
  refine lv_iconst (v := iI 0) hx hb dX10_gather_20 (by decide) ?_
  refine va_put (D := g) (ci := 10) (v := Value.int (iI 0)) (ty := .int) (C := RX10) (T := TX10) (N := 18) hx hb hts in_X10_gather_X10 tyX10 tyX10_ok nmX10 hown hK.1 hP hD hS 0 (rfl) rfl 16 (by decide) (hts _ (List.mem_of_getElem? (i := 4) rfl) : (Cond.fieldLink RX10 93 "CordSealsModel" "counted" "I").before _ s = true) (fun _ h9 => h9) rfl (by decide +kernel) rfl rfl (Nat.le_of_ble_eq_true rfl) dX10_gather_21 (fun H locs hP hD hS => ?_)
  have hP : va_P g vwCl ([moO ma (updZ (updZ (updZ (updZ M 13 1000) 14 1999) 15 0) 16 0), arC fa (τ 0) 291 (flR R)]) H := hP
  have hD : va_D A ([moO ma (updZ (updZ (updZ (updZ M 13 1000) 14 1999) 15 0) 16 0), arC fa (τ 0) 291 (flR R)]) := hD
  refine lv_iconst (v := iI 0) hx hb dX10_gather_24 (by decide) ?_
  refine lv_istore (lv' := [(4, Value.int (iI 0)), (0, Value.ref (ma 0)), (1, Value.ref fa), (2, Value.int (iI c1)), (3, Value.int (iI w1))]) hx hb dX10_gather_25 hl (by decide) rfl (fun ls hl => ?_)
  have hP : va_P g vwCl ([moO ma (updZ (updZ (updZ (updZ M 13 (gL R c1 w1 0)) 14 (gH R c1 w1 0)) 15 (gM R c1 w1 0)) 16 (cnt (gP R c1 w1) 0)), arC fa (τ 0) 291 (flR R)]) H := by first | exact hP | (exact hP)
  have hD : va_D A ([moO ma (updZ (updZ (updZ (updZ M 13 (gL R c1 w1 0)) 14 (gH R c1 w1 0)) 15 (gM R c1 w1 0)) 16 (cnt (gP R c1 w1) 0)), arC fa (τ 0) 291 (flR R)]) := by first | exact hD | (exact hD)
  refine lp_upW (fun i => [(4, Value.int (iI (i : Int))), (0, Value.ref (ma 0)), (1, Value.ref fa), (2, Value.int (iI c1)), (3, Value.int (iI w1))]) (fun i => [moO ma (updZ (updZ (updZ (updZ M 13 (gL R c1 w1 i)) 14 (gH R c1 w1 i)) 15 (gM R c1 w1 i)) 16 (cnt (gP R c1 w1) i)), arC fa (τ 0) 291 (flR R)]) (fun i => True) ((R 10 0).toNat) (0) (by omega) hP hD hS (by first | trivial | (intro j hj; omega)) (lv_eq (lv_sub hl [0, 1, 2, 3, 4] rfl) (by show [(4, Value.int (iI 0)), (0, Value.ref (ma 0)), (1, Value.ref fa), (2, Value.int (iI c1)), (3, Value.int (iI w1))] = [(4, Value.int (iI 0)), (0, Value.ref (ma 0)), (1, Value.ref fa), (2, Value.int (iI c1)), (3, Value.int (iI w1))]; rfl)) (fun i h0_i hi_i hI_i ih_27 H locs hP hD hS ls hl => ?_)
  have hgl := gL_b hI c1 w1 i
  have hgh := gH_b hI c1 w1 i
  have hgm := gM_b hI c1 w1 i (by omega)
  have hgc := cnt_le (gP R c1 w1) i
  refine lv_iload hx hb dX10_gather_27 (lv_at hl 0 rfl) ?_
  refine lv_aload_n hx hb dX10_gather_29 rfl (lv_at hl 2 rfl) ?_
  refine lv_iconst (v := iI 2) hx hb dX10_gather_30 (by decide) ?_
  refine zf_ald hx hb hK hP 1 (f := flR R) rfl (2) (rfl) (by omega) (by decide) (z := R 10 0) (fl_10) dX10_gather_31 ?_
  have hb_1 := hB 10 0
  refine zi_icmp_ge (tgt := 153) hx hb ⟨by omega, by omega⟩ ⟨by omega, by omega⟩ dX10_gather_32 (by decide) (fun c_2 => ?_) (fun c_2 => ?_)
  · have _ := c_2
    have h0_i : i = (R 10 0).toNat := by omega
    exact rw_vret hx hb hr hlocks hP hS (⟨rfl, by rw [h0_i]; rfl⟩) dX10_gather_153
  · have _ := c_2
    have hl_i : i < (R 10 0).toNat := by omega
    have hsl := hI.sl i (by omega)
    refine lv_aload_n hx hb dX10_gather_35 rfl (lv_at hl 2 rfl) ?_
    refine lv_sipush (v := iI 225) hx hb dX10_gather_36 (by decide) ?_
    refine lv_iload hx hb dX10_gather_39 (lv_at hl 0 rfl) ?_
    refine zi_add hx hb dX10_gather_41 ?_
    refine zf_ald hx hb hK hP 1 (f := flR R) rfl (225 + i) (by omega) (by omega) (by decide) (z := R 16 i) (fl_16 (i := i) (by omega) (by omega)) dX10_gather_42 ?_
    have hb_3 := hB 16 i
    refine lv_iload_n hx hb dX10_gather_43 rfl (lv_at hl 3 rfl) ?_
    refine zi_icmp_ne (tgt := 147) hx hb ⟨by omega, by omega⟩ ⟨by omega, by omega⟩ dX10_gather_44 (by decide) (fun c_4 => ?_) (fun c_4 => ?_)
    · have _ := c_4
      refine zi_inc (v := ((i + 1 : Nat) : Int)) (lv' := [(4, Value.int (iI ((i + 1 : Nat) : Int))), (0, Value.ref (ma 0)), (1, Value.ref fa), (2, Value.int (iI c1)), (3, Value.int (iI w1))]) hx hb dX10_gather_147 hl (k := 0) rfl (by omega) (by decide) rfl (fun ls hl => ?_)
      refine lv_goto (tgt := 27) hx hb dX10_gather_150 (by decide) ?_
      have hb_5 : (((i + 1) : Nat) : Int) = ((i + 1 : Nat) : Int) := by first | rfl | omega | (simp [c_2, c_4]; done)
      have hw_6 : [moO ma (updZ (updZ (updZ (updZ M 13 (gL R c1 w1 i)) 14 (gH R c1 w1 i)) 15 (gM R c1 w1 i)) 16 (cnt (gP R c1 w1) i)), arC fa (τ 0) 291 (flR R)] = [moO ma (updZ (updZ (updZ (updZ M 13 (gL R c1 w1 (i + 1))) 14 (gH R c1 w1 (i + 1))) 15 (gM R c1 w1 (i + 1))) 16 (cnt (gP R c1 w1) (i + 1))), arC fa (τ 0) 291 (flR R)] := by first | (have hg : gP R c1 w1 i = false := decide_eq_false (by omega); rw [gL_f hg, gH_f hg, gM_f hg, cnt_f hg]) | (have hg : gP R c1 w1 i = true := decide_eq_true (by omega); rw [gL_t hg, gH_t hg, gM_t hg, cnt_t hg])
      rw [hw_6] at hP hD
      exact ih_27 hl_i (trivial) _ _ _ hP hD hS (lv_eq (lv_sub hl [0, 1, 2, 3, 4] rfl) (by show [(4, Value.int (iI (((i + 1) : Nat) : Int))), (0, Value.ref (ma 0)), (1, Value.ref fa), (2, Value.int (iI c1)), (3, Value.int (iI w1))] = [(4, Value.int (iI ((i + 1 : Nat) : Int))), (0, Value.ref (ma 0)), (1, Value.ref fa), (2, Value.int (iI c1)), (3, Value.int (iI w1))]; rw [hb_5]))
    · have _ := c_4
      refine lv_iload hx hb dX10_gather_47 (lv_at hl 0 rfl) ?_
      refine lv_iload_n hx hb dX10_gather_49 rfl (lv_at hl 4 rfl) ?_
      refine zi_icmp_eq (tgt := 147) hx hb ⟨by omega, by omega⟩ ⟨by omega, by omega⟩ dX10_gather_50 (by decide) (fun c_7 => ?_) (fun c_7 => ?_)
      · have _ := c_7
        refine zi_inc (v := ((i + 1 : Nat) : Int)) (lv' := [(4, Value.int (iI ((i + 1 : Nat) : Int))), (0, Value.ref (ma 0)), (1, Value.ref fa), (2, Value.int (iI c1)), (3, Value.int (iI w1))]) hx hb dX10_gather_147 hl (k := 0) rfl (by omega) (by decide) rfl (fun ls hl => ?_)
        refine lv_goto (tgt := 27) hx hb dX10_gather_150 (by decide) ?_
        have hb_8 : (((i + 1) : Nat) : Int) = ((i + 1 : Nat) : Int) := by first | rfl | omega | (simp [c_2, c_4, c_7]; done)
        have hw_9 : [moO ma (updZ (updZ (updZ (updZ M 13 (gL R c1 w1 i)) 14 (gH R c1 w1 i)) 15 (gM R c1 w1 i)) 16 (cnt (gP R c1 w1) i)), arC fa (τ 0) 291 (flR R)] = [moO ma (updZ (updZ (updZ (updZ M 13 (gL R c1 w1 (i + 1))) 14 (gH R c1 w1 (i + 1))) 15 (gM R c1 w1 (i + 1))) 16 (cnt (gP R c1 w1) (i + 1))), arC fa (τ 0) 291 (flR R)] := by first | (have hg : gP R c1 w1 i = false := decide_eq_false (by omega); rw [gL_f hg, gH_f hg, gM_f hg, cnt_f hg]) | (have hg : gP R c1 w1 i = true := decide_eq_true (by omega); rw [gL_t hg, gH_t hg, gM_t hg, cnt_t hg])
        rw [hw_9] at hP hD
        exact ih_27 hl_i (trivial) _ _ _ hP hD hS (lv_eq (lv_sub hl [0, 1, 2, 3, 4] rfl) (by show [(4, Value.int (iI (((i + 1) : Nat) : Int))), (0, Value.ref (ma 0)), (1, Value.ref fa), (2, Value.int (iI c1)), (3, Value.int (iI w1))] = [(4, Value.int (iI ((i + 1 : Nat) : Int))), (0, Value.ref (ma 0)), (1, Value.ref fa), (2, Value.int (iI c1)), (3, Value.int (iI w1))]; rw [hb_8]))
      · have _ := c_7
        refine lv_aload_n hx hb dX10_gather_53 rfl (lv_at hl 2 rfl) ?_
        refine lv_iload hx hb dX10_gather_54 (lv_at hl 0 rfl) ?_
        refine ro_S (As := [Value.ref fa, Value.int (iI (i : Int))]) (rest := []) (v := some (Value.int (iI (ownA R i)))) ⟨hx, hb, hml, hown, hts⟩ (c_X10_alone l g τ fa R hI i (by omega)) gX10_gather_X10_alone cd_X10_alone rfl ⟨rfl, rfl⟩ ⟨Nat.le_of_ble_eq_true rfl, Nat.le_of_ble_eq_true rfl⟩ hK (cut_P (is := [1]) hP rfl) rfl hl rfl (Nat.le_of_ble_eq_true rfl) dX10_gather_56 ⟨Nat.le_of_ble_eq_true rfl, Nat.le_of_ble_eq_true rfl⟩ ?_
        refine tl_some ?_
        have := ownA_b R i
        refine zi_if_ne (tgt := 147) hx hb ⟨by omega, by omega⟩ dX10_gather_59 (by decide) (fun c_10 => ?_) (fun c_10 => ?_)
        · have _ := c_10
          refine zi_inc (v := ((i + 1 : Nat) : Int)) (lv' := [(4, Value.int (iI ((i + 1 : Nat) : Int))), (0, Value.ref (ma 0)), (1, Value.ref fa), (2, Value.int (iI c1)), (3, Value.int (iI w1))]) hx hb dX10_gather_147 hl (k := 0) rfl (by omega) (by decide) rfl (fun ls hl => ?_)
          refine lv_goto (tgt := 27) hx hb dX10_gather_150 (by decide) ?_
          have hb_11 : (((i + 1) : Nat) : Int) = ((i + 1 : Nat) : Int) := by first | rfl | omega | (simp [c_2, c_4, c_7, c_10]; done)
          have hw_12 : [moO ma (updZ (updZ (updZ (updZ M 13 (gL R c1 w1 i)) 14 (gH R c1 w1 i)) 15 (gM R c1 w1 i)) 16 (cnt (gP R c1 w1) i)), arC fa (τ 0) 291 (flR R)] = [moO ma (updZ (updZ (updZ (updZ M 13 (gL R c1 w1 (i + 1))) 14 (gH R c1 w1 (i + 1))) 15 (gM R c1 w1 (i + 1))) 16 (cnt (gP R c1 w1) (i + 1))), arC fa (τ 0) 291 (flR R)] := by first | (have hg : gP R c1 w1 i = false := decide_eq_false (by omega); rw [gL_f hg, gH_f hg, gM_f hg, cnt_f hg]) | (have hg : gP R c1 w1 i = true := decide_eq_true (by omega); rw [gL_t hg, gH_t hg, gM_t hg, cnt_t hg])
          rw [hw_12] at hP hD
          exact ih_27 hl_i (trivial) _ _ _ hP hD hS (lv_eq (lv_sub hl [0, 1, 2, 3, 4] rfl) (by show [(4, Value.int (iI (((i + 1) : Nat) : Int))), (0, Value.ref (ma 0)), (1, Value.ref fa), (2, Value.int (iI c1)), (3, Value.int (iI w1))] = [(4, Value.int (iI ((i + 1 : Nat) : Int))), (0, Value.ref (ma 0)), (1, Value.ref fa), (2, Value.int (iI c1)), (3, Value.int (iI w1))]; rw [hb_11]))
        · have _ := c_10
          refine lv_aload_n hx hb dX10_gather_62 rfl (lv_at hl 1 rfl) ?_
          refine jn (F0 m 89 ls (Value.int (iI (if gL R c1 w1 i < sLo R i then sLo R i else gL R c1 w1 i)) :: Value.ref (ma 0) :: [])) ?_ (fun K => ?_)
          · skip
            refine va_put (D := g) (ci := 10) (v := Value.int (iI (if gL R c1 w1 i < sLo R i then sLo R i else gL R c1 w1 i))) (ty := .int) (C := RX10) (T := TX10) (N := 18) hx hb hts in_X10_gather_X10 tyX10 tyX10_ok nmX10 hown hK.1 hP hD hS 0 (rfl) rfl 13 (by decide) (hts _ (List.mem_of_getElem? (i := 1) rfl) : (Cond.fieldLink RX10 84 "CordSealsModel" "low" "I").before _ s = true) (fun _ h9 => h9) rfl (by decide +kernel) rfl rfl (Nat.le_of_ble_eq_true rfl) dX10_gather_89 (fun H locs hP hD hS => ?_)
            have hP : va_P g vwCl ([moO ma (updZ (updZ (updZ (updZ M 13 (if gL R c1 w1 i < sLo R i then sLo R i else gL R c1 w1 i)) 14 (gH R c1 w1 i)) 15 (gM R c1 w1 i)) 16 (cnt (gP R c1 w1) i)), arC fa (τ 0) 291 (flR R)]) H := hP
            have hD : va_D A ([moO ma (updZ (updZ (updZ (updZ M 13 (if gL R c1 w1 i < sLo R i then sLo R i else gL R c1 w1 i)) 14 (gH R c1 w1 i)) 15 (gM R c1 w1 i)) 16 (cnt (gP R c1 w1) i)), arC fa (τ 0) 291 (flR R)]) := hD
            refine lv_aload_n hx hb dX10_gather_92 rfl (lv_at hl 1 rfl) ?_
            refine jn (F0 m 119 ls (Value.int (iI (if sHi R i < gH R c1 w1 i then sHi R i else gH R c1 w1 i)) :: Value.ref (ma 0) :: [])) ?_ (fun K => ?_)
            · skip
              refine va_put (D := g) (ci := 10) (v := Value.int (iI (if sHi R i < gH R c1 w1 i then sHi R i else gH R c1 w1 i))) (ty := .int) (C := RX10) (T := TX10) (N := 18) hx hb hts in_X10_gather_X10 tyX10 tyX10_ok nmX10 hown hK.1 hP hD hS 0 (rfl) rfl 14 (by decide) (hts _ (List.mem_of_getElem? (i := 2) rfl) : (Cond.fieldLink RX10 87 "CordSealsModel" "high" "I").before _ s = true) (fun _ h9 => h9) rfl (by decide +kernel) rfl rfl (Nat.le_of_ble_eq_true rfl) dX10_gather_119 (fun H locs hP hD hS => ?_)
              have hP : va_P g vwCl ([moO ma (updZ (updZ (updZ (updZ M 13 (if gL R c1 w1 i < sLo R i then sLo R i else gL R c1 w1 i)) 14 (if sHi R i < gH R c1 w1 i then sHi R i else gH R c1 w1 i)) 15 (gM R c1 w1 i)) 16 (cnt (gP R c1 w1) i)), arC fa (τ 0) 291 (flR R)]) H := hP
              have hD : va_D A ([moO ma (updZ (updZ (updZ (updZ M 13 (if gL R c1 w1 i < sLo R i then sLo R i else gL R c1 w1 i)) 14 (if sHi R i < gH R c1 w1 i then sHi R i else gH R c1 w1 i)) 15 (gM R c1 w1 i)) 16 (cnt (gP R c1 w1) i)), arC fa (τ 0) 291 (flR R)]) := hD
              refine lv_aload_n hx hb dX10_gather_122 rfl (lv_at hl 1 rfl) ?_
              refine lv_dup hx hb dX10_gather_123 rfl ?_
              refine va_get (D := g) (ci := 10) (v := Value.int (iI (gM R c1 w1 i))) (C := RX10) (T := TX10) (N := 18) hx hb hts in_X10_gather_X10 hown hK.1 hP 0 (rfl) rfl 15 (by decide) (hts _ (List.mem_of_getElem? (i := 3) rfl) : (Cond.fieldLink RX10 90 "CordSealsModel" "mask" "I").before _ s = true) (fun _ h9 => h9) rfl dX10_gather_124 ?_
              refine lv_aload_n hx hb dX10_gather_127 rfl (lv_at hl 2 rfl) ?_
              refine lv_iload hx hb dX10_gather_128 (lv_at hl 0 rfl) ?_
              refine ro_S (As := [Value.ref fa, Value.int (iI (i : Int))]) (rest := [Value.int (iI (gM R c1 w1 i)), Value.ref (ma 0)]) (v := some (Value.int (iI (rMask R i)))) ⟨hx, hb, hml, hown, hts⟩ (c_X10_maskOf l g τ fa R hI i (by omega)) gX10_gather_X10_maskOf cd_X10_maskOf rfl ⟨rfl, rfl⟩ ⟨Nat.le_of_ble_eq_true rfl, Nat.le_of_ble_eq_true rfl⟩ hK (cut_P (is := [1]) hP rfl) rfl hl rfl (Nat.le_of_ble_eq_true rfl) dX10_gather_130 ⟨Nat.le_of_ble_eq_true rfl, Nat.le_of_ble_eq_true rfl⟩ ?_
              refine tl_some ?_
              have := rMask_8 (hI.sl i (by omega)).2.2.1
              refine zi_or hx hb ⟨by omega, by omega⟩ dX10_gather_133 ?_
              refine va_put (D := g) (ci := 10) (v := Value.int (iI (zor (gM R c1 w1 i) (rMask R i)))) (ty := .int) (C := RX10) (T := TX10) (N := 18) hx hb hts in_X10_gather_X10 tyX10 tyX10_ok nmX10 hown hK.1 hP hD hS 0 (rfl) rfl 15 (by decide) (hts _ (List.mem_of_getElem? (i := 3) rfl) : (Cond.fieldLink RX10 90 "CordSealsModel" "mask" "I").before _ s = true) (fun _ h9 => h9) rfl (by decide +kernel) rfl rfl (Nat.le_of_ble_eq_true rfl) dX10_gather_134 (fun H locs hP hD hS => ?_)
              have hP : va_P g vwCl ([moO ma (updZ (updZ (updZ (updZ M 13 (if gL R c1 w1 i < sLo R i then sLo R i else gL R c1 w1 i)) 14 (if sHi R i < gH R c1 w1 i then sHi R i else gH R c1 w1 i)) 15 (zor (gM R c1 w1 i) (rMask R i))) 16 (cnt (gP R c1 w1) i)), arC fa (τ 0) 291 (flR R)]) H := hP
              have hD : va_D A ([moO ma (updZ (updZ (updZ (updZ M 13 (if gL R c1 w1 i < sLo R i then sLo R i else gL R c1 w1 i)) 14 (if sHi R i < gH R c1 w1 i then sHi R i else gH R c1 w1 i)) 15 (zor (gM R c1 w1 i) (rMask R i))) 16 (cnt (gP R c1 w1) i)), arC fa (τ 0) 291 (flR R)]) := hD
              refine lv_aload_n hx hb dX10_gather_137 rfl (lv_at hl 1 rfl) ?_
              refine lv_dup hx hb dX10_gather_138 rfl ?_
              refine va_get (D := g) (ci := 10) (v := Value.int (iI (cnt (gP R c1 w1) i))) (C := RX10) (T := TX10) (N := 18) hx hb hts in_X10_gather_X10 hown hK.1 hP 0 (rfl) rfl 16 (by decide) (hts _ (List.mem_of_getElem? (i := 4) rfl) : (Cond.fieldLink RX10 93 "CordSealsModel" "counted" "I").before _ s = true) (fun _ h9 => h9) rfl dX10_gather_139 ?_
              refine lv_iconst (v := iI 1) hx hb dX10_gather_142 (by decide) ?_
              refine zi_add hx hb dX10_gather_143 ?_
              refine va_put (D := g) (ci := 10) (v := Value.int (iI ((cnt (gP R c1 w1) i) + 1))) (ty := .int) (C := RX10) (T := TX10) (N := 18) hx hb hts in_X10_gather_X10 tyX10 tyX10_ok nmX10 hown hK.1 hP hD hS 0 (rfl) rfl 16 (by decide) (hts _ (List.mem_of_getElem? (i := 4) rfl) : (Cond.fieldLink RX10 93 "CordSealsModel" "counted" "I").before _ s = true) (fun _ h9 => h9) rfl (by decide +kernel) rfl rfl (Nat.le_of_ble_eq_true rfl) dX10_gather_144 (fun H locs hP hD hS => ?_)
              have hP : va_P g vwCl ([moO ma (updZ (updZ (updZ (updZ M 13 (if gL R c1 w1 i < sLo R i then sLo R i else gL R c1 w1 i)) 14 (if sHi R i < gH R c1 w1 i then sHi R i else gH R c1 w1 i)) 15 (zor (gM R c1 w1 i) (rMask R i))) 16 ((cnt (gP R c1 w1) i) + 1)), arC fa (τ 0) 291 (flR R)]) H := hP
              have hD : va_D A ([moO ma (updZ (updZ (updZ (updZ M 13 (if gL R c1 w1 i < sLo R i then sLo R i else gL R c1 w1 i)) 14 (if sHi R i < gH R c1 w1 i then sHi R i else gH R c1 w1 i)) 15 (zor (gM R c1 w1 i) (rMask R i))) 16 ((cnt (gP R c1 w1) i) + 1)), arC fa (τ 0) 291 (flR R)]) := hD
              refine zi_inc (v := ((i + 1 : Nat) : Int)) (lv' := [(4, Value.int (iI ((i + 1 : Nat) : Int))), (0, Value.ref (ma 0)), (1, Value.ref fa), (2, Value.int (iI c1)), (3, Value.int (iI w1))]) hx hb dX10_gather_147 hl (k := 0) rfl (by omega) (by decide) rfl (fun ls hl => ?_)
              refine lv_goto (tgt := 27) hx hb dX10_gather_150 (by decide) ?_
              have hb_13 : (((i + 1) : Nat) : Int) = ((i + 1 : Nat) : Int) := by first | rfl | omega | (simp [c_2, c_4, c_7, c_10]; done)
              have hw_14 : [moO ma (updZ (updZ (updZ (updZ M 13 (if gL R c1 w1 i < sLo R i then sLo R i else gL R c1 w1 i)) 14 (if sHi R i < gH R c1 w1 i then sHi R i else gH R c1 w1 i)) 15 (zor (gM R c1 w1 i) (rMask R i))) 16 ((cnt (gP R c1 w1) i) + 1)), arC fa (τ 0) 291 (flR R)] = [moO ma (updZ (updZ (updZ (updZ M 13 (gL R c1 w1 (i + 1))) 14 (gH R c1 w1 (i + 1))) 15 (gM R c1 w1 (i + 1))) 16 (cnt (gP R c1 w1) (i + 1))), arC fa (τ 0) 291 (flR R)] := by first | (have hg : gP R c1 w1 i = false := decide_eq_false (by omega); rw [gL_f hg, gH_f hg, gM_f hg, cnt_f hg]) | (have hg : gP R c1 w1 i = true := decide_eq_true (by omega); rw [gL_t hg, gH_t hg, gM_t hg, cnt_t hg])
              rw [hw_14] at hP hD
              exact ih_27 hl_i (trivial) _ _ _ hP hD hS (lv_eq (lv_sub hl [0, 1, 2, 3, 4] rfl) (by show [(4, Value.int (iI (((i + 1) : Nat) : Int))), (0, Value.ref (ma 0)), (1, Value.ref fa), (2, Value.int (iI c1)), (3, Value.int (iI w1))] = [(4, Value.int (iI ((i + 1 : Nat) : Int))), (0, Value.ref (ma 0)), (1, Value.ref fa), (2, Value.int (iI c1)), (3, Value.int (iI w1))]; rw [hb_13]))
            · skip
              refine lv_aload_n hx hb dX10_gather_93 rfl (lv_at hl 2 rfl) ?_
              refine lv_iload hx hb dX10_gather_94 (lv_at hl 0 rfl) ?_
              refine ro_S (As := [Value.ref fa, Value.int (iI (i : Int))]) (rest := [Value.ref (ma 0)]) (v := some (Value.int (iI (sHi R i)))) ⟨hx, hb, hml, hown, hts⟩ (c_X10_highOf l g τ fa R hI i (by omega)) gX10_gather_X10_highOf cd_X10_highOf rfl ⟨rfl, rfl⟩ ⟨Nat.le_of_ble_eq_true rfl, Nat.le_of_ble_eq_true rfl⟩ hK (cut_P (is := [1]) hP rfl) rfl hl rfl (Nat.le_of_ble_eq_true rfl) dX10_gather_96 ⟨Nat.le_of_ble_eq_true rfl, Nat.le_of_ble_eq_true rfl⟩ ?_
              refine tl_some ?_
              have := sHi_b hI i
              refine lv_aload_n hx hb dX10_gather_99 rfl (lv_at hl 1 rfl) ?_
              refine va_get (D := g) (ci := 10) (v := Value.int (iI (gH R c1 w1 i))) (C := RX10) (T := TX10) (N := 18) hx hb hts in_X10_gather_X10 hown hK.1 hP 0 (rfl) rfl 14 (by decide) (hts _ (List.mem_of_getElem? (i := 2) rfl) : (Cond.fieldLink RX10 87 "CordSealsModel" "high" "I").before _ s = true) (fun _ h9 => h9) rfl dX10_gather_100 ?_
              refine zi_icmp_ge (tgt := 115) hx hb ⟨by omega, by omega⟩ ⟨by omega, by omega⟩ dX10_gather_103 (by decide) (fun c_15 => ?_) (fun c_15 => ?_)
              · have _ := c_15
                refine lv_aload_n hx hb dX10_gather_115 rfl (lv_at hl 1 rfl) ?_
                refine va_get (D := g) (ci := 10) (v := Value.int (iI (gH R c1 w1 i))) (C := RX10) (T := TX10) (N := 18) hx hb hts in_X10_gather_X10 hown hK.1 hP 0 (rfl) rfl 14 (by decide) (hts _ (List.mem_of_getElem? (i := 2) rfl) : (Cond.fieldLink RX10 87 "CordSealsModel" "high" "I").before _ s = true) (fun _ h9 => h9) rfl dX10_gather_116 ?_
                exact cv_i (congrArg iI (Eq.symm (show (if sHi R i < gH R c1 w1 i then sHi R i else gH R c1 w1 i) = (gH R c1 w1 i) from by first | rw [if_pos (by omega)] | rw [if_neg (by omega)]))) K
              · have _ := c_15
                refine lv_aload_n hx hb dX10_gather_106 rfl (lv_at hl 2 rfl) ?_
                refine lv_iload hx hb dX10_gather_107 (lv_at hl 0 rfl) ?_
                refine ro_S (As := [Value.ref fa, Value.int (iI (i : Int))]) (rest := [Value.ref (ma 0)]) (v := some (Value.int (iI (sHi R i)))) ⟨hx, hb, hml, hown, hts⟩ (c_X10_highOf l g τ fa R hI i (by omega)) gX10_gather_X10_highOf cd_X10_highOf rfl ⟨rfl, rfl⟩ ⟨Nat.le_of_ble_eq_true rfl, Nat.le_of_ble_eq_true rfl⟩ hK (cut_P (is := [1]) hP rfl) rfl hl rfl (Nat.le_of_ble_eq_true rfl) dX10_gather_109 ⟨Nat.le_of_ble_eq_true rfl, Nat.le_of_ble_eq_true rfl⟩ ?_
                refine tl_some ?_
                have := sHi_b hI i
                refine lv_goto (tgt := 119) hx hb dX10_gather_112 (by decide) ?_
                exact cv_i (congrArg iI (Eq.symm (show (if sHi R i < gH R c1 w1 i then sHi R i else gH R c1 w1 i) = (sHi R i) from by first | rw [if_pos (by omega)] | rw [if_neg (by omega)]))) K
          · skip
            refine lv_aload_n hx hb dX10_gather_63 rfl (lv_at hl 2 rfl) ?_
            refine lv_iload hx hb dX10_gather_64 (lv_at hl 0 rfl) ?_
            refine ro_S (As := [Value.ref fa, Value.int (iI (i : Int))]) (rest := [Value.ref (ma 0)]) (v := some (Value.int (iI (sLo R i)))) ⟨hx, hb, hml, hown, hts⟩ (c_X10_lowOf l g τ fa R hI i (by omega)) gX10_gather_X10_lowOf cd_X10_lowOf rfl ⟨rfl, rfl⟩ ⟨Nat.le_of_ble_eq_true rfl, Nat.le_of_ble_eq_true rfl⟩ hK (cut_P (is := [1]) hP rfl) rfl hl rfl (Nat.le_of_ble_eq_true rfl) dX10_gather_66 ⟨Nat.le_of_ble_eq_true rfl, Nat.le_of_ble_eq_true rfl⟩ ?_
            refine tl_some ?_
            have := sLo_b hI i
            refine lv_aload_n hx hb dX10_gather_69 rfl (lv_at hl 1 rfl) ?_
            refine va_get (D := g) (ci := 10) (v := Value.int (iI (gL R c1 w1 i))) (C := RX10) (T := TX10) (N := 18) hx hb hts in_X10_gather_X10 hown hK.1 hP 0 (rfl) rfl 13 (by decide) (hts _ (List.mem_of_getElem? (i := 1) rfl) : (Cond.fieldLink RX10 84 "CordSealsModel" "low" "I").before _ s = true) (fun _ h9 => h9) rfl dX10_gather_70 ?_
            refine zi_icmp_le (tgt := 85) hx hb ⟨by omega, by omega⟩ ⟨by omega, by omega⟩ dX10_gather_73 (by decide) (fun c_16 => ?_) (fun c_16 => ?_)
            · have _ := c_16
              refine lv_aload_n hx hb dX10_gather_85 rfl (lv_at hl 1 rfl) ?_
              refine va_get (D := g) (ci := 10) (v := Value.int (iI (gL R c1 w1 i))) (C := RX10) (T := TX10) (N := 18) hx hb hts in_X10_gather_X10 hown hK.1 hP 0 (rfl) rfl 13 (by decide) (hts _ (List.mem_of_getElem? (i := 1) rfl) : (Cond.fieldLink RX10 84 "CordSealsModel" "low" "I").before _ s = true) (fun _ h9 => h9) rfl dX10_gather_86 ?_
              exact cv_i (congrArg iI (Eq.symm (show (if gL R c1 w1 i < sLo R i then sLo R i else gL R c1 w1 i) = (gL R c1 w1 i) from by first | rw [if_pos (by omega)] | rw [if_neg (by omega)]))) K
            · have _ := c_16
              refine lv_aload_n hx hb dX10_gather_76 rfl (lv_at hl 2 rfl) ?_
              refine lv_iload hx hb dX10_gather_77 (lv_at hl 0 rfl) ?_
              refine ro_S (As := [Value.ref fa, Value.int (iI (i : Int))]) (rest := [Value.ref (ma 0)]) (v := some (Value.int (iI (sLo R i)))) ⟨hx, hb, hml, hown, hts⟩ (c_X10_lowOf l g τ fa R hI i (by omega)) gX10_gather_X10_lowOf cd_X10_lowOf rfl ⟨rfl, rfl⟩ ⟨Nat.le_of_ble_eq_true rfl, Nat.le_of_ble_eq_true rfl⟩ hK (cut_P (is := [1]) hP rfl) rfl hl rfl (Nat.le_of_ble_eq_true rfl) dX10_gather_79 ⟨Nat.le_of_ble_eq_true rfl, Nat.le_of_ble_eq_true rfl⟩ ?_
              refine tl_some ?_
              have := sLo_b hI i
              refine lv_goto (tgt := 89) hx hb dX10_gather_82 (by decide) ?_
              exact cv_i (congrArg iI (Eq.symm (show (if gL R c1 w1 i < sLo R i then sLo R i else gL R c1 w1 i) = (sLo R i) from by first | rw [if_pos (by omega)] | rw [if_neg (by omega)]))) K

theorem cd_X10_ofCharter : cd yX10_ofCharter 4 := by decide +kernel
theorem in_X10_ofCharter_X10 : ∀ w ∈ wsX100, w ∈ wsX10_ofCharter := by decide +kernel
set_option maxHeartbeats 1000000 in
set_option maxRecDepth 100000 in
theorem c_X10_ofCharter (l : Launch) (g : va_G) (τ : Nat → ClassId) (ma : Nat → Nat) (M : Nat → Int) (fa : Nat) (R : Nat → Nat → Int) (hI : SI R) (c1 : Int) (hc1 : -2147483648 ≤ c1 ∧ c1 < 2147483648) (w1 : Int) (hw1 : -2147483648 ≤ w1 ∧ w1 < 2147483648) (q : Int) (rq : -2147483648 ≤ q ∧ q < 2147483648)  : Met l yX10_ofCharter wsX10_ofCharter { frames := 5, cells := 0, slots := 0, locals := 119 } (va_Pc [Value.ref (ma 0), Value.ref fa, Value.int (iI c1), Value.int (iI w1), Value.int (iI q)] (rwW g τ ([moO ma M, arC fa (τ 0) 291 (flR R)]))) (rwQ g (fun v w => v = some (Value.int (iI (rCh R c1 w1 q))) ∧ ∃ M2, AG M M2 ∧ w = [moO ma M2, arC fa (τ 0) 291 (flR R)]) (inW ([moO ma M, arC fa (τ 0) 291 (flR R)]))) 0 0 (inW ([moO ma M, arC fa (τ 0) 291 (flR R)])) := by
  have hB := hI.hB
  have hr0 := hI.r
  have hd0 := hI.d
  have hs0 := hI.s
  refine rwMet (cc := cX10_ofCharter) (maxL := 5) (ret := (some .int)) (lv := [(0, Value.ref (ma 0)), (1, Value.ref fa), (2, Value.int (iI c1)), (3, Value.int (iI w1)), (4, Value.int (iI q))]) (by decide) rfl (Nat.le_of_ble_eq_true rfl) rfl ?_
  intro p e s m below meth c hx hb hr hml hts hown hlocks A H hP hD hS hK ls hl
  refine lv_aload_n hx hb dX10_ofCharter_0 rfl (lv_at hl 0 rfl) ?_
  refine lv_aload_n hx hb dX10_ofCharter_1 rfl (lv_at hl 1 rfl) ?_
  refine lv_iload_n hx hb dX10_ofCharter_2 rfl (lv_at hl 2 rfl) ?_
  refine lv_iload_n hx hb dX10_ofCharter_3 rfl (lv_at hl 3 rfl) ?_
  refine rw_V (As := [Value.ref fa, Value.int (iI c1), Value.int (iI w1)]) (rest := []) ⟨hx, hb, hml, hown, hts⟩ (c_X10_gather l g τ ma M fa R hI c1 ⟨by omega, by omega⟩ w1 ⟨by omega, by omega⟩) gX10_ofCharter_X10_gather cd_X10_gather rfl rfl ⟨rfl, rfl⟩ ⟨Nat.le_of_ble_eq_true rfl, Nat.le_of_ble_eq_true rfl⟩ hK hP hD hS [0, 1] (rfl) (by decide) 0 rfl rfl rfl rfl hl rfl (Nat.le_of_ble_eq_true rfl) dX10_ofCharter_4 ⟨Nat.le_of_ble_eq_true rfl, Nat.le_of_ble_eq_true rfl⟩ (fun v w h => by rw [h.2]; rfl) (fun v w1 H locs hZ hP hD hS => ?_)
  obtain ⟨rfl, rfl⟩ := hZ
  have hP : va_P g vwCl ([moO ma (updZ (updZ (updZ (updZ M 13 (gL R c1 w1 (R 10 0).toNat)) 14 (gH R c1 w1 (R 10 0).toNat)) 15 (gM R c1 w1 (R 10 0).toNat)) 16 (cnt (gP R c1 w1) (R 10 0).toNat)), arC fa (τ 0) 291 (flR R)]) H := hP
  have hD : va_D A ([moO ma (updZ (updZ (updZ (updZ M 13 (gL R c1 w1 (R 10 0).toNat)) 14 (gH R c1 w1 (R 10 0).toNat)) 15 (gM R c1 w1 (R 10 0).toNat)) 16 (cnt (gP R c1 w1) (R 10 0).toNat)), arC fa (τ 0) 291 (flR R)]) := hD
  have := gL_b hI c1 w1 (R 10 0).toNat
  have := gH_b hI c1 w1 (R 10 0).toNat
  have := gM_b hI c1 w1 (R 10 0).toNat (by omega)
  have := cnt_le (gP R c1 w1) (R 10 0).toNat
  refine tl_none ?_
  refine lv_aload_n hx hb dX10_ofCharter_7 rfl (lv_at hl 0 rfl) ?_
  refine va_get (D := g) (ci := 10) (v := Value.int (iI (cnt (gP R c1 w1) (R 10 0).toNat))) (C := RX10) (T := TX10) (N := 18) hx hb hts in_X10_ofCharter_X10 hown hK.1 hP 0 (rfl) rfl 16 (by decide) (hts _ (List.mem_of_getElem? (i := 1) rfl) : (Cond.fieldLink RX10 93 "CordSealsModel" "counted" "I").before _ s = true) (fun _ h9 => h9) rfl dX10_ofCharter_8 ?_
  refine zi_if_ne (tgt := 26) hx hb ⟨by omega, by omega⟩ dX10_ofCharter_11 (by decide) (fun c_1 => ?_) (fun c_1 => ?_)
  · have _ := c_1
    refine lv_aload_n hx hb dX10_ofCharter_26 rfl (lv_at hl 1 rfl) ?_
    refine lv_aload_n hx hb dX10_ofCharter_27 rfl (lv_at hl 0 rfl) ?_
    refine va_get (D := g) (ci := 10) (v := Value.int (iI (gL R c1 w1 (R 10 0).toNat))) (C := RX10) (T := TX10) (N := 18) hx hb hts in_X10_ofCharter_X10 hown hK.1 hP 0 (rfl) rfl 13 (by decide) (hts _ (List.mem_of_getElem? (i := 2) rfl) : (Cond.fieldLink RX10 84 "CordSealsModel" "low" "I").before _ s = true) (fun _ h9 => h9) rfl dX10_ofCharter_28 ?_
    refine lv_aload_n hx hb dX10_ofCharter_31 rfl (lv_at hl 0 rfl) ?_
    refine va_get (D := g) (ci := 10) (v := Value.int (iI (gH R c1 w1 (R 10 0).toNat))) (C := RX10) (T := TX10) (N := 18) hx hb hts in_X10_ofCharter_X10 hown hK.1 hP 0 (rfl) rfl 14 (by decide) (hts _ (List.mem_of_getElem? (i := 3) rfl) : (Cond.fieldLink RX10 87 "CordSealsModel" "high" "I").before _ s = true) (fun _ h9 => h9) rfl dX10_ofCharter_32 ?_
    refine lv_aload_n hx hb dX10_ofCharter_35 rfl (lv_at hl 0 rfl) ?_
    refine va_get (D := g) (ci := 10) (v := Value.int (iI (gM R c1 w1 (R 10 0).toNat))) (C := RX10) (T := TX10) (N := 18) hx hb hts in_X10_ofCharter_X10 hown hK.1 hP 0 (rfl) rfl 15 (by decide) (hts _ (List.mem_of_getElem? (i := 4) rfl) : (Cond.fieldLink RX10 90 "CordSealsModel" "mask" "I").before _ s = true) (fun _ h9 => h9) rfl dX10_ofCharter_36 ?_
    refine lv_iload hx hb dX10_ofCharter_39 (lv_at hl 4 rfl) ?_
    refine ro_S (As := [Value.ref fa, Value.int (iI (gL R c1 w1 (R 10 0).toNat)), Value.int (iI (gH R c1 w1 (R 10 0).toNat)), Value.int (iI (gM R c1 w1 (R 10 0).toNat)), Value.int (iI q)]) (rest := []) (v := some (Value.int (iI (rY R (gL R c1 w1 (R 10 0).toNat) (gH R c1 w1 (R 10 0).toNat) (gM R c1 w1 (R 10 0).toNat) q)))) ⟨hx, hb, hml, hown, hts⟩ (c_X10_years l g τ fa R hI (gL R c1 w1 (R 10 0).toNat) (gH R c1 w1 (R 10 0).toNat) (gM R c1 w1 (R 10 0).toNat) q (by omega) (by omega) (by omega) (by omega)) gX10_ofCharter_X10_years cd_X10_years rfl ⟨rfl, rfl⟩ ⟨Nat.le_of_ble_eq_true rfl, Nat.le_of_ble_eq_true rfl⟩ hK (cut_P (is := [1]) hP rfl) rfl hl rfl (Nat.le_of_ble_eq_true rfl) dX10_ofCharter_41 ⟨Nat.le_of_ble_eq_true rfl, Nat.le_of_ble_eq_true rfl⟩ ?_
    refine tl_some ?_
    have := rY_b hI (lo := (gL R c1 w1 (R 10 0).toNat)) (hi := (gH R c1 w1 (R 10 0).toNat)) (w := (gM R c1 w1 (R 10 0).toNat)) (by omega) (by omega) q
    exact rw_iret hx hb hr hlocks hP hS (⟨by rw [rCh, if_neg (by omega)], _, (AG_u (AG_u (AG_u (AG_u (AG_r _) (by decide)) (by decide)) (by decide)) (by decide)), rfl⟩) dX10_ofCharter_44
  · have _ := c_1
    refine lv_iload hx hb dX10_ofCharter_14 (lv_at hl 4 rfl) ?_
    refine lv_iconst (v := iI 2) hx hb dX10_ofCharter_16 (by decide) ?_
    refine zi_icmp_ne (tgt := 24) hx hb ⟨by omega, by omega⟩ ⟨by decide, by decide⟩ dX10_ofCharter_17 (by decide) (fun c_2 => ?_) (fun c_2 => ?_)
    · have _ := c_2
      refine lv_iconst (v := iI (-1)) hx hb dX10_ofCharter_24 (by decide) ?_
      exact rw_iret hx hb hr hlocks hP hS (⟨by rw [rCh, if_pos (by omega)]; first | rw [if_pos (by omega)] | rw [if_neg (by omega)], _, (AG_u (AG_u (AG_u (AG_u (AG_r _) (by decide)) (by decide)) (by decide)) (by decide)), rfl⟩) dX10_ofCharter_25
    · have _ := c_2
      refine lv_iconst (v := iI 0) hx hb dX10_ofCharter_20 (by decide) ?_
      refine lv_goto (tgt := 25) hx hb dX10_ofCharter_21 (by decide) ?_
      exact rw_iret hx hb hr hlocks hP hS (⟨by rw [rCh, if_pos (by omega)]; first | rw [if_pos (by omega)] | rw [if_neg (by omega)], _, (AG_u (AG_u (AG_u (AG_u (AG_r _) (by decide)) (by decide)) (by decide)) (by decide)), rfl⟩) dX10_ofCharter_25

theorem cd_X10_fake : cd yX10_fake 2 := by decide +kernel
set_option maxHeartbeats 1000000 in
set_option maxRecDepth 100000 in
theorem c_X10_fake (l : Launch) (g : va_G) (τ : Nat → ClassId) (ma : Nat → Nat) (M : Nat → Int) (fa : Nat) (R : Nat → Nat → Int) (hI : SI R) (s1 : Nat) (hs : (s1 : Int) < R 10 0)  : Met l yX10_fake wsX10_fake { frames := 6, cells := 0, slots := 0, locals := 143 } (va_Pc [Value.ref (ma 0), Value.ref fa, Value.int (iI (s1 : Int))] (rwW g τ ([moO ma M, arC fa (τ 0) 291 (flR R)]))) (rwQ g (fun v w => v = some (Value.int (iI (rFk R s1))) ∧ ∃ M2, AG M M2 ∧ w = [moO ma M2, arC fa (τ 0) 291 (flR R)]) (inW ([moO ma M, arC fa (τ 0) 291 (flR R)]))) 0 0 (inW ([moO ma M, arC fa (τ 0) 291 (flR R)])) := by
  have hB := hI.hB
  have hr0 := hI.r
  have hd0 := hI.d
  have hs0 := hI.s
  have hsl := hI.sl s1 hs
  have hdl := hI.ds (R 11 s1).toNat (by omega)
  refine rwMet (cc := cX10_fake) (maxL := 4) (ret := (some .int)) (lv := [(0, Value.ref (ma 0)), (1, Value.ref fa), (2, Value.int (iI (s1 : Int)))]) (by decide) rfl (Nat.le_of_ble_eq_true rfl) rfl ?_
  intro p e s m below meth c hx hb hr hml hts hown hlocks A H hP hD hS hK ls hl
  refine lv_aload_n hx hb dX10_fake_0 rfl (lv_at hl 1 rfl) ?_
  refine lv_iload_n hx hb dX10_fake_1 rfl (lv_at hl 2 rfl) ?_
  refine ro_S (As := [Value.ref fa, Value.int (iI (s1 : Int))]) (rest := []) (v := some (Value.int (iI (ownA R s1)))) ⟨hx, hb, hml, hown, hts⟩ (c_X10_alone l g τ fa R hI s1 (by omega)) gX10_fake_X10_alone cd_X10_alone rfl ⟨rfl, rfl⟩ ⟨Nat.le_of_ble_eq_true rfl, Nat.le_of_ble_eq_true rfl⟩ hK (cut_P (is := [1]) hP rfl) rfl hl rfl (Nat.le_of_ble_eq_true rfl) dX10_fake_2 ⟨Nat.le_of_ble_eq_true rfl, Nat.le_of_ble_eq_true rfl⟩ ?_
  refine tl_some ?_
  have := ownA_b R s1
  refine lv_istore_n (lv' := [(3, Value.int (iI (ownA R s1))), (0, Value.ref (ma 0)), (1, Value.ref fa), (2, Value.int (iI (s1 : Int)))]) hx hb dX10_fake_5 rfl hl (by decide) rfl (fun ls hl => ?_)
  refine lv_iload_n hx hb dX10_fake_6 rfl (lv_at hl 0 rfl) ?_
  refine zi_if_ne (tgt := 40) hx hb ⟨by omega, by omega⟩ dX10_fake_7 (by decide) (fun c_1 => ?_) (fun c_1 => ?_)
  · have _ := c_1
    refine lv_iload_n hx hb dX10_fake_40 rfl (lv_at hl 0 rfl) ?_
    exact rw_iret hx hb hr hlocks hP hS (⟨by rw [rFk, if_neg (by omega)], _, (AG_r _), rfl⟩) dX10_fake_41
  · have _ := c_1
    refine lv_aload_n hx hb dX10_fake_10 rfl (lv_at hl 2 rfl) ?_
    refine lv_sipush (v := iI 225) hx hb dX10_fake_11 (by decide) ?_
    refine lv_iload_n hx hb dX10_fake_14 rfl (lv_at hl 3 rfl) ?_
    refine zi_add hx hb dX10_fake_15 ?_
    refine zf_ald hx hb hK hP 1 (f := flR R) rfl (225 + s1) (by omega) (by omega) (by decide) (z := R 16 s1) (fl_16 (i := s1) (by omega) (by omega)) dX10_fake_16 ?_
    have hb_2 := hB 16 s1
    refine lv_iconst (v := iI (-1)) hx hb dX10_fake_17 (by decide) ?_
    refine zi_icmp_eq (tgt := 40) hx hb ⟨by omega, by omega⟩ ⟨by decide, by decide⟩ dX10_fake_18 (by decide) (fun c_3 => ?_) (fun c_3 => ?_)
    · have _ := c_3
      refine lv_iload_n hx hb dX10_fake_40 rfl (lv_at hl 0 rfl) ?_
      exact rw_iret hx hb hr hlocks hP hS (⟨by rw [rFk, if_neg (by omega)], _, (AG_r _), rfl⟩) dX10_fake_41
    · have _ := c_3
      refine lv_aload_n hx hb dX10_fake_21 rfl (lv_at hl 1 rfl) ?_
      refine lv_aload_n hx hb dX10_fake_22 rfl (lv_at hl 2 rfl) ?_
      refine lv_aload_n hx hb dX10_fake_23 rfl (lv_at hl 2 rfl) ?_
      refine lv_sipush (v := iI 225) hx hb dX10_fake_24 (by decide) ?_
      refine lv_iload_n hx hb dX10_fake_27 rfl (lv_at hl 3 rfl) ?_
      refine zi_add hx hb dX10_fake_28 ?_
      refine zf_ald hx hb hK hP 1 (f := flR R) rfl (225 + s1) (by omega) (by omega) (by decide) (z := R 16 s1) (fl_16 (i := s1) (by omega) (by omega)) dX10_fake_29 ?_
      have hb_4 := hB 16 s1
      refine lv_iconst (v := iI (-1)) hx hb dX10_fake_30 (by decide) ?_
      refine lv_iconst (v := iI 2) hx hb dX10_fake_31 (by decide) ?_
      refine rw_V (As := [Value.ref fa, Value.int (iI (R 16 s1)), Value.int (iI (-1)), Value.int (iI 2)]) (rest := []) ⟨hx, hb, hml, hown, hts⟩ (c_X10_ofCharter l g τ ma M fa R hI (R 16 s1) ⟨by omega, by omega⟩ (-1) ⟨by omega, by omega⟩ 2 ⟨by omega, by omega⟩) gX10_fake_X10_ofCharter cd_X10_ofCharter rfl rfl ⟨rfl, rfl⟩ ⟨Nat.le_of_ble_eq_true rfl, Nat.le_of_ble_eq_true rfl⟩ hK hP hD hS [0, 1] (rfl) (by decide) 0 rfl rfl rfl rfl hl rfl (Nat.le_of_ble_eq_true rfl) dX10_fake_32 ⟨Nat.le_of_ble_eq_true rfl, Nat.le_of_ble_eq_true rfl⟩ (fun v w h => by obtain ⟨-, M9, -, rfl⟩ := h; rfl) (fun v w1 H locs hZ hP hD hS => ?_)
      obtain ⟨rfl, M_5, hgM_5, rfl⟩ := hZ
      have hP : va_P g vwCl ([moO ma M_5, arC fa (τ 0) 291 (flR R)]) H := hP
      have hD : va_D A ([moO ma M_5, arC fa (τ 0) 291 (flR R)]) := hD
      have hfM_5_0 : M_5 0 = M 0 := hgM_5 0 (by decide)
      have hfM_5_5 : M_5 5 = M 5 := hgM_5 5 (by decide)
      have hfM_5_9 : M_5 9 = M 9 := hgM_5 9 (by decide)
      have hfM_5_10 : M_5 10 = M 10 := hgM_5 10 (by decide)
      have hfM_5_11 : M_5 11 = M 11 := hgM_5 11 (by decide)
      have hfM_5_12 : M_5 12 = M 12 := hgM_5 12 (by decide)
      have := rCh_b hI (R 16 s1) (-1) 2
      refine tl_some ?_
      refine zi_if_ne (tgt := 40) hx hb ⟨by omega, by omega⟩ dX10_fake_35 (by decide) (fun c_6 => ?_) (fun c_6 => ?_)
      · have _ := c_6
        refine lv_iload_n hx hb dX10_fake_40 rfl (lv_at hl 0 rfl) ?_
        exact rw_iret hx hb hr hlocks hP hS (⟨by rw [rFk, if_neg (by omega)], _, (AG_t (AG_r _) hgM_5), rfl⟩) dX10_fake_41
      · have _ := c_6
        refine lv_iconst (v := iI 4) hx hb dX10_fake_38 (by decide) ?_
        exact rw_iret hx hb hr hlocks hP hS (⟨by rw [rFk, if_pos ⟨by omega, by omega, by omega⟩], _, (AG_t (AG_r _) hgM_5), rfl⟩) dX10_fake_39

theorem cd_X10_fakes : cd yX10_fakes 1 := by decide +kernel
set_option maxHeartbeats 1000000 in
set_option maxRecDepth 100000 in
theorem c_X10_fakes (l : Launch) (g : va_G) (τ : Nat → ClassId) (ma : Nat → Nat) (M : Nat → Int) (fa : Nat) (R : Nat → Nat → Int) (hI : SI R)  : Met l yX10_fakes wsX10_fakes { frames := 7, cells := 0, slots := 0, locals := 166 } (va_Pc [Value.ref (ma 0), Value.ref fa] (rwW g τ ([moO ma M, arC fa (τ 0) 291 (flR R)]))) (rwQ g (fun v w => v = some (Value.int (iI (rFks R (R 10 0).toNat))) ∧ ∃ M2, AG M M2 ∧ w = [moO ma M2, arC fa (τ 0) 291 (flR R)]) (inW ([moO ma M, arC fa (τ 0) 291 (flR R)]))) 0 0 (inW ([moO ma M, arC fa (τ 0) 291 (flR R)])) := by
  have hB := hI.hB
  have hr0 := hI.r
  have hd0 := hI.d
  have hs0 := hI.s
  refine rwMet (cc := cX10_fakes) (maxL := 4) (ret := (some .int)) (lv := [(0, Value.ref (ma 0)), (1, Value.ref fa)]) (by decide) rfl (Nat.le_of_ble_eq_true rfl) rfl ?_
  intro p e s m below meth c hx hb hr hml hts hown hlocks A H hP hD hS hK ls hl
  refine lv_iconst (v := iI 0) hx hb dX10_fakes_0 (by decide) ?_
  refine lv_istore_n (lv' := [(2, Value.int (iI 0)), (0, Value.ref (ma 0)), (1, Value.ref fa)]) hx hb dX10_fakes_1 rfl hl (by decide) rfl (fun ls hl => ?_)
  refine lv_iconst (v := iI 0) hx hb dX10_fakes_2 (by decide) ?_
  refine lv_istore_n (lv' := [(3, Value.int (iI 0)), (2, Value.int (iI 0)), (0, Value.ref (ma 0)), (1, Value.ref fa)]) hx hb dX10_fakes_3 rfl hl (by decide) rfl (fun ls hl => ?_)
  have h0_1 : rFks R 0 = 0 := rfl
  have hP : va_P g vwCl ([moO ma M, arC fa (τ 0) 291 (flR R)]) H := by first | exact hP | (exact hP)
  have hD : va_D A ([moO ma M, arC fa (τ 0) 291 (flR R)]) := by first | exact hD | (exact hD)
  refine lp_upX (fun i => [(3, Value.int (iI (i : Int))), (2, Value.int (iI (rFks R i))), (0, Value.ref (ma 0)), (1, Value.ref fa)]) (fun i M_2 => [moO ma M_2, arC fa (τ 0) 291 (flR R)]) (fun i M_2 => AG M M_2) ((R 10 0).toNat) (0) (M) (by omega) hP hD hS (AG_r _) (lv_eq (lv_sub hl [0, 1, 2, 3] rfl) (by show [(3, Value.int (iI 0)), (2, Value.int (iI (rFks R 0))), (0, Value.ref (ma 0)), (1, Value.ref fa)] = [(3, Value.int (iI 0)), (2, Value.int (iI 0)), (0, Value.ref (ma 0)), (1, Value.ref fa)]; rw [h0_1])) (fun i h0_i hi_i M_2 hJ_i ih_4 H locs hP hD hS ls hl => ?_)
  have hfM_2_0 : M_2 0 = M 0 := hJ_i 0 (by decide)
  have hfM_2_5 : M_2 5 = M 5 := hJ_i 5 (by decide)
  have hfM_2_9 : M_2 9 = M 9 := hJ_i 9 (by decide)
  have hfM_2_10 : M_2 10 = M 10 := hJ_i 10 (by decide)
  have hfM_2_11 : M_2 11 = M 11 := hJ_i 11 (by decide)
  have hfM_2_12 : M_2 12 = M 12 := hJ_i 12 (by decide)
  refine lv_iload_n hx hb dX10_fakes_4 rfl (lv_at hl 0 rfl) ?_
  refine lv_aload_n hx hb dX10_fakes_5 rfl (lv_at hl 3 rfl) ?_
  refine lv_iconst (v := iI 2) hx hb dX10_fakes_6 (by decide) ?_
  refine zf_ald hx hb hK hP 1 (f := flR R) rfl (2) (rfl) (by omega) (by decide) (z := R 10 0) (fl_10) dX10_fakes_7 ?_
  have hb_3 := hB 10 0
  refine zi_icmp_ge (tgt := 34) hx hb ⟨by omega, by omega⟩ ⟨by omega, by omega⟩ dX10_fakes_8 (by decide) (fun c_4 => ?_) (fun c_4 => ?_)
  · have _ := c_4
    have h0_i : i = (R 10 0).toNat := by omega
    refine lv_iload_n hx hb dX10_fakes_34 rfl (lv_at hl 1 rfl) ?_
    exact rw_iret hx hb hr hlocks hP hS (⟨by rw [h0_i], _, (hJ_i), rfl⟩) dX10_fakes_35
  · have _ := c_4
    have hl_i : i < (R 10 0).toNat := by omega
    refine lv_iload_n hx hb dX10_fakes_11 rfl (lv_at hl 1 rfl) ?_
    refine lv_aload_n hx hb dX10_fakes_12 rfl (lv_at hl 2 rfl) ?_
    refine lv_aload_n hx hb dX10_fakes_13 rfl (lv_at hl 3 rfl) ?_
    refine lv_iload_n hx hb dX10_fakes_14 rfl (lv_at hl 0 rfl) ?_
    refine rw_V (As := [Value.ref fa, Value.int (iI (i : Int))]) (rest := [Value.int (iI (rFks R i))]) ⟨hx, hb, hml, hown, hts⟩ (c_X10_fake l g τ ma M_2 fa R hI i (by omega)) gX10_fakes_X10_fake cd_X10_fake rfl rfl ⟨rfl, rfl⟩ ⟨Nat.le_of_ble_eq_true rfl, Nat.le_of_ble_eq_true rfl⟩ hK hP hD hS [0, 1] (rfl) (by decide) 0 rfl rfl rfl rfl hl rfl (Nat.le_of_ble_eq_true rfl) dX10_fakes_15 ⟨Nat.le_of_ble_eq_true rfl, Nat.le_of_ble_eq_true rfl⟩ (fun v w h => by obtain ⟨-, M9, -, rfl⟩ := h; rfl) (fun v w1 H locs hZ hP hD hS => ?_)
    obtain ⟨rfl, M_5, hgM_5, rfl⟩ := hZ
    have hP : va_P g vwCl ([moO ma M_5, arC fa (τ 0) 291 (flR R)]) H := hP
    have hD : va_D A ([moO ma M_5, arC fa (τ 0) 291 (flR R)]) := hD
    have hfM_5_0 : M_5 0 = M_2 0 := hgM_5 0 (by decide)
    have hfM_5_5 : M_5 5 = M_2 5 := hgM_5 5 (by decide)
    have hfM_5_9 : M_5 9 = M_2 9 := hgM_5 9 (by decide)
    have hfM_5_10 : M_5 10 = M_2 10 := hgM_5 10 (by decide)
    have hfM_5_11 : M_5 11 = M_2 11 := hgM_5 11 (by decide)
    have hfM_5_12 : M_5 12 = M_2 12 := hgM_5 12 (by decide)
    have := rFk_b R i
    refine tl_some ?_
    refine zi_if_le (tgt := 25) hx hb ⟨by omega, by omega⟩ dX10_fakes_18 (by decide) (fun c_6 => ?_) (fun c_6 => ?_)
    · have _ := c_6
      refine lv_iconst (v := iI 0) hx hb dX10_fakes_25 (by decide) ?_
      refine zi_add hx hb dX10_fakes_26 ?_
      refine lv_istore_n (lv' := [(2, Value.int (iI ((rFks R i) + 0))), (3, Value.int (iI (i : Int))), (0, Value.ref (ma 0)), (1, Value.ref fa)]) hx hb dX10_fakes_27 rfl hl (by decide) rfl (fun ls hl => ?_)
      refine zi_inc (v := ((i + 1 : Nat) : Int)) (lv' := [(3, Value.int (iI ((i + 1 : Nat) : Int))), (2, Value.int (iI ((rFks R i) + 0))), (0, Value.ref (ma 0)), (1, Value.ref fa)]) hx hb dX10_fakes_28 hl (k := 1) rfl (by omega) (by decide) rfl (fun ls hl => ?_)
      refine lv_goto (tgt := 4) hx hb dX10_fakes_31 (by decide) ?_
      have hb_7 : (((i + 1) : Nat) : Int) = ((i + 1 : Nat) : Int) := by first | rfl | omega | (simp [c_4, c_6]; done)
      have hb_8 : rFks R (i + 1) = (rFks R i) + 0 := by unfold rFks; first | (rw [cnt_t (decide_eq_true (by omega))]) | (rw [cnt_f (decide_eq_false (by omega))]; omega)
      exact ih_4 hl_i (M_5) (AG_t (hJ_i) hgM_5) _ _ _ hP hD hS (lv_eq (lv_sub hl [0, 1, 2, 3] rfl) (by show [(3, Value.int (iI (((i + 1) : Nat) : Int))), (2, Value.int (iI (rFks R (i + 1)))), (0, Value.ref (ma 0)), (1, Value.ref fa)] = [(3, Value.int (iI ((i + 1 : Nat) : Int))), (2, Value.int (iI ((rFks R i) + 0))), (0, Value.ref (ma 0)), (1, Value.ref fa)]; rw [hb_7, hb_8]))
    · have _ := c_6
      refine lv_iconst (v := iI 1) hx hb dX10_fakes_21 (by decide) ?_
      refine lv_goto (tgt := 26) hx hb dX10_fakes_22 (by decide) ?_
      refine zi_add hx hb dX10_fakes_26 ?_
      refine lv_istore_n (lv' := [(2, Value.int (iI ((rFks R i) + 1))), (3, Value.int (iI (i : Int))), (0, Value.ref (ma 0)), (1, Value.ref fa)]) hx hb dX10_fakes_27 rfl hl (by decide) rfl (fun ls hl => ?_)
      refine zi_inc (v := ((i + 1 : Nat) : Int)) (lv' := [(3, Value.int (iI ((i + 1 : Nat) : Int))), (2, Value.int (iI ((rFks R i) + 1))), (0, Value.ref (ma 0)), (1, Value.ref fa)]) hx hb dX10_fakes_28 hl (k := 1) rfl (by omega) (by decide) rfl (fun ls hl => ?_)
      refine lv_goto (tgt := 4) hx hb dX10_fakes_31 (by decide) ?_
      have hb_9 : (((i + 1) : Nat) : Int) = ((i + 1 : Nat) : Int) := by first | rfl | omega | (simp [c_4, c_6]; done)
      have hb_10 : rFks R (i + 1) = (rFks R i) + 1 := by unfold rFks; first | (rw [cnt_t (decide_eq_true (by omega))]) | (rw [cnt_f (decide_eq_false (by omega))]; omega)
      exact ih_4 hl_i (M_5) (AG_t (hJ_i) hgM_5) _ _ _ hP hD hS (lv_eq (lv_sub hl [0, 1, 2, 3] rfl) (by show [(3, Value.int (iI (((i + 1) : Nat) : Int))), (2, Value.int (iI (rFks R (i + 1)))), (0, Value.ref (ma 0)), (1, Value.ref fa)] = [(3, Value.int (iI ((i + 1 : Nat) : Int))), (2, Value.int (iI ((rFks R i) + 1))), (0, Value.ref (ma 0)), (1, Value.ref fa)]; rw [hb_9, hb_10]))

theorem cd_X10_isGood : cd yX10_isGood 2 := by decide +kernel
set_option maxHeartbeats 1000000 in
set_option maxRecDepth 100000 in
theorem c_X10_isGood (l : Launch) (g : va_G) (τ : Nat → ClassId) (ma : Nat → Nat) (M : Nat → Int) (fa : Nat) (R : Nat → Nat → Int) (hI : SI R) (h1 : Nat) (hh : h1 < 6)  : Met l yX10_isGood wsX10_isGood { frames := 7, cells := 0, slots := 0, locals := 166 } (va_Pc [Value.ref (ma 0), Value.ref fa, Value.int (iI (h1 : Int))] (rwW g τ ([moO ma M, arC fa (τ 0) 291 (flR R)]))) (rwQ g (fun v w => v = some (Value.int (iI (zB (rIs R h1 (R 18 h1).toNat)))) ∧ ∃ M2, AG M M2 ∧ w = [moO ma M2, arC fa (τ 0) 291 (flR R)]) (inW ([moO ma M, arC fa (τ 0) 291 (flR R)]))) 0 0 (inW ([moO ma M, arC fa (τ 0) 291 (flR R)])) := by
  have hB := hI.hB
  have hr0 := hI.r
  have hd0 := hI.d
  have hs0 := hI.s
  have hN := hI.hN h1 hh
  refine rwMet (cc := cX10_isGood) (maxL := 7) (ret := (some .boolean)) (lv := [(0, Value.ref (ma 0)), (1, Value.ref fa), (2, Value.int (iI (h1 : Int)))]) (by decide) rfl (Nat.le_of_ble_eq_true rfl) rfl ?_
  intro p e s m below meth c hx hb hr hml hts hown hlocks A H hP hD hS hK ls hl
  refine lv_iconst (v := iI (-1)) hx hb dX10_isGood_0 (by decide) ?_
  refine lv_istore_n (lv' := [(3, Value.int (iI (-1))), (0, Value.ref (ma 0)), (1, Value.ref fa), (2, Value.int (iI (h1 : Int)))]) hx hb dX10_isGood_1 rfl hl (by decide) rfl (fun ls hl => ?_)
  refine lv_iconst (v := iI 1) hx hb dX10_isGood_2 (by decide) ?_
  refine lv_istore (lv' := [(4, Value.int (iI 1)), (3, Value.int (iI (-1))), (0, Value.ref (ma 0)), (1, Value.ref fa), (2, Value.int (iI (h1 : Int)))]) hx hb dX10_isGood_3 hl (by decide) rfl (fun ls hl => ?_)
  refine lv_iconst (v := iI 0) hx hb dX10_isGood_5 (by decide) ?_
  refine lv_istore (lv' := [(5, Value.int (iI 0)), (4, Value.int (iI 1)), (3, Value.int (iI (-1))), (0, Value.ref (ma 0)), (1, Value.ref fa), (2, Value.int (iI (h1 : Int)))]) hx hb dX10_isGood_6 hl (by decide) rfl (fun ls hl => ?_)
  have h0_1 : zB (rIs R h1 0) = 1 := rfl
  have h0_2 : rBf R h1 0 = (-1) := rfl
  have hP : va_P g vwCl ([moO ma M, arC fa (τ 0) 291 (flR R)]) H := by first | exact hP | (exact hP)
  have hD : va_D A ([moO ma M, arC fa (τ 0) 291 (flR R)]) := by first | exact hD | (exact hD)
  refine lp_upX (fun i => [(5, Value.int (iI (i : Int))), (4, Value.int (iI (zB (rIs R h1 i)))), (3, Value.int (iI (rBf R h1 i))), (0, Value.ref (ma 0)), (1, Value.ref fa), (2, Value.int (iI (h1 : Int)))]) (fun i M_3 => [moO ma M_3, arC fa (τ 0) 291 (flR R)]) (fun i M_3 => AG M M_3) ((R 18 h1).toNat) (0) (M) (by omega) hP hD hS (AG_r _) (lv_eq (lv_sub hl [0, 1, 2, 3, 4, 5] rfl) (by show [(5, Value.int (iI 0)), (4, Value.int (iI (zB (rIs R h1 0)))), (3, Value.int (iI (rBf R h1 0))), (0, Value.ref (ma 0)), (1, Value.ref fa), (2, Value.int (iI (h1 : Int)))] = [(5, Value.int (iI 0)), (4, Value.int (iI 1)), (3, Value.int (iI (-1))), (0, Value.ref (ma 0)), (1, Value.ref fa), (2, Value.int (iI (h1 : Int)))]; rw [h0_1, h0_2])) (fun i h0_i hi_i M_3 hJ_i ih_8 H locs hP hD hS ls hl => ?_)
  have hfM_3_0 : M_3 0 = M 0 := hJ_i 0 (by decide)
  have hfM_3_5 : M_3 5 = M 5 := hJ_i 5 (by decide)
  have hfM_3_9 : M_3 9 = M 9 := hJ_i 9 (by decide)
  have hfM_3_10 : M_3 10 = M 10 := hJ_i 10 (by decide)
  have hfM_3_11 : M_3 11 = M 11 := hJ_i 11 (by decide)
  have hfM_3_12 : M_3 12 = M 12 := hJ_i 12 (by decide)
  have hbf := rBf_b hI h1 i
  refine lv_iload hx hb dX10_isGood_8 (lv_at hl 0 rfl) ?_
  refine lv_aload_n hx hb dX10_isGood_10 rfl (lv_at hl 4 rfl) ?_
  refine lv_sipush (v := iI 249) hx hb dX10_isGood_11 (by decide) ?_
  refine lv_iload_n hx hb dX10_isGood_14 rfl (lv_at hl 5 rfl) ?_
  refine zi_add hx hb dX10_isGood_15 ?_
  refine zf_ald hx hb hK hP 1 (f := flR R) rfl (249 + h1) (by omega) (by omega) (by decide) (z := R 18 h1) (fl_18 (i := h1) (by omega) (by omega)) dX10_isGood_16 ?_
  have hb_4 := hB 18 h1
  refine zi_icmp_ge (tgt := 97) hx hb ⟨by omega, by omega⟩ ⟨by omega, by omega⟩ dX10_isGood_17 (by decide) (fun c_5 => ?_) (fun c_5 => ?_)
  · have _ := c_5
    have h0_i : i = (R 18 h1).toNat := by omega
    refine lv_iload hx hb dX10_isGood_97 (lv_at hl 1 rfl) ?_
    exact rw_zret hx hb hr hlocks hP hS (⟨⟨by rw [h0_i], _, (hJ_i), rfl⟩, _, iI_b2 _⟩) dX10_isGood_99
  · have _ := c_5
    have hl_i : i < (R 18 h1).toNat := by omega
    refine lv_aload_n hx hb dX10_isGood_20 rfl (lv_at hl 4 rfl) ?_
    refine lv_sipush (v := iI 255) hx hb dX10_isGood_21 (by decide) ?_
    refine lv_bipush (v := iI 6) hx hb dX10_isGood_24 (by decide) ?_
    refine lv_iload_n hx hb dX10_isGood_26 rfl (lv_at hl 5 rfl) ?_
    refine zi_mul hx hb dX10_isGood_27 ?_
    refine zi_add hx hb dX10_isGood_28 ?_
    refine lv_iload hx hb dX10_isGood_29 (lv_at hl 0 rfl) ?_
    refine zi_add hx hb dX10_isGood_31 ?_
    have hon := hI.on h1 i hh (by omega)
    refine zf_ald hx hb hK hP 1 (f := flR R) rfl ((255 + (6 * h1)) + i) (by omega) (by omega) (by decide) (z := R 19 (h1 * 6 + i)) (fl_19 (i := h1 * 6 + i) (by omega) (by omega)) dX10_isGood_32 ?_
    have hb_6 := hB 19 (h1 * 6 + i)
    refine cv_i (y := iI (((R 19 (h1 * 6 + i)).toNat : Nat) : Int)) (congrArg iI (by omega)) ?_
    refine lv_istore (lv' := [(6, Value.int (iI (((R 19 (h1 * 6 + i)).toNat : Nat) : Int))), (5, Value.int (iI (i : Int))), (4, Value.int (iI (zB (rIs R h1 i)))), (3, Value.int (iI (rBf R h1 i))), (0, Value.ref (ma 0)), (1, Value.ref fa), (2, Value.int (iI (h1 : Int)))]) hx hb dX10_isGood_33 hl (by decide) rfl (fun ls hl => ?_)
    refine lv_aload_n hx hb dX10_isGood_35 rfl (lv_at hl 4 rfl) ?_
    refine lv_aload_n hx hb dX10_isGood_36 rfl (lv_at hl 5 rfl) ?_
    refine lv_iload hx hb dX10_isGood_37 (lv_at hl 0 rfl) ?_
    refine rw_V (As := [Value.ref fa, Value.int (iI (((R 19 (h1 * 6 + i)).toNat : Nat) : Int))]) (rest := []) ⟨hx, hb, hml, hown, hts⟩ (c_X10_fake l g τ ma M_3 fa R hI ((R 19 (h1 * 6 + i)).toNat) (by omega)) gX10_isGood_X10_fake cd_X10_fake rfl rfl ⟨rfl, rfl⟩ ⟨Nat.le_of_ble_eq_true rfl, Nat.le_of_ble_eq_true rfl⟩ hK hP hD hS [0, 1] (rfl) (by decide) 0 rfl rfl rfl rfl hl rfl (Nat.le_of_ble_eq_true rfl) dX10_isGood_39 ⟨Nat.le_of_ble_eq_true rfl, Nat.le_of_ble_eq_true rfl⟩ (fun v w h => by obtain ⟨-, M9, -, rfl⟩ := h; rfl) (fun v w1 H locs hZ hP hD hS => ?_)
    obtain ⟨rfl, M_7, hgM_7, rfl⟩ := hZ
    have hP : va_P g vwCl ([moO ma M_7, arC fa (τ 0) 291 (flR R)]) H := hP
    have hD : va_D A ([moO ma M_7, arC fa (τ 0) 291 (flR R)]) := hD
    have hfM_7_0 : M_7 0 = M_3 0 := hgM_7 0 (by decide)
    have hfM_7_5 : M_7 5 = M_3 5 := hgM_7 5 (by decide)
    have hfM_7_9 : M_7 9 = M_3 9 := hgM_7 9 (by decide)
    have hfM_7_10 : M_7 10 = M_3 10 := hgM_7 10 (by decide)
    have hfM_7_11 : M_7 11 = M_3 11 := hgM_7 11 (by decide)
    have hfM_7_12 : M_7 12 = M_3 12 := hgM_7 12 (by decide)
    have := rFk_b R ((R 19 (h1 * 6 + i)).toNat)
    refine tl_some ?_
    refine zi_if_ne (tgt := 91) hx hb ⟨by omega, by omega⟩ dX10_isGood_42 (by decide) (fun c_8 => ?_) (fun c_8 => ?_)
    · have _ := c_8
      refine zi_inc (v := ((i + 1 : Nat) : Int)) (lv' := [(5, Value.int (iI ((i + 1 : Nat) : Int))), (6, Value.int (iI (((R 19 (h1 * 6 + i)).toNat : Nat) : Int))), (4, Value.int (iI (zB (rIs R h1 i)))), (3, Value.int (iI (rBf R h1 i))), (0, Value.ref (ma 0)), (1, Value.ref fa), (2, Value.int (iI (h1 : Int)))]) hx hb dX10_isGood_91 hl (k := 1) rfl (by omega) (by decide) rfl (fun ls hl => ?_)
      refine lv_goto (tgt := 8) hx hb dX10_isGood_94 (by decide) ?_
      have hb_9 : (((i + 1) : Nat) : Int) = ((i + 1 : Nat) : Int) := by first | rfl | omega | (simp [c_5, c_8]; done)
      have hb_10 : zB (rIs R h1 (i + 1)) = zB (rIs R h1 i) := by rw [rIs]; first | rw [if_pos (by omega)] | rw [if_neg (by omega)]
      have hb_11 : rBf R h1 (i + 1) = rBf R h1 i := by rw [rBf]; first | rw [if_pos (by omega)] | rw [if_neg (by omega)]
      exact ih_8 hl_i (M_7) (AG_t (hJ_i) hgM_7) _ _ _ hP hD hS (lv_eq (lv_sub hl [0, 2, 3, 4, 5, 6] rfl) (by show [(5, Value.int (iI (((i + 1) : Nat) : Int))), (4, Value.int (iI (zB (rIs R h1 (i + 1))))), (3, Value.int (iI (rBf R h1 (i + 1)))), (0, Value.ref (ma 0)), (1, Value.ref fa), (2, Value.int (iI (h1 : Int)))] = [(5, Value.int (iI ((i + 1 : Nat) : Int))), (4, Value.int (iI (zB (rIs R h1 i)))), (3, Value.int (iI (rBf R h1 i))), (0, Value.ref (ma 0)), (1, Value.ref fa), (2, Value.int (iI (h1 : Int)))]; rw [hb_9, hb_10, hb_11]))
    · have _ := c_8
      refine jn (F0 m 66 ls (Value.int (iI (zB (rIs R h1 i && decide (rBf R h1 i ≤ y0 R (R 19 (h1 * 6 + i)).toNat)))) :: [])) ?_ (fun K => ?_)
      · skip
        refine lv_istore (lv' := [(4, Value.int (iI (zB (rIs R h1 i && decide (rBf R h1 i ≤ y0 R (R 19 (h1 * 6 + i)).toNat))))), (6, Value.int (iI (((R 19 (h1 * 6 + i)).toNat : Nat) : Int))), (5, Value.int (iI (i : Int))), (3, Value.int (iI (rBf R h1 i))), (0, Value.ref (ma 0)), (1, Value.ref fa), (2, Value.int (iI (h1 : Int)))]) hx hb dX10_isGood_66 hl (by decide) rfl (fun ls hl => ?_)
        refine jn (F0 m 90 ls (Value.int (iI (if rBf R h1 i < y0 R (R 19 (h1 * 6 + i)).toNat then y0 R (R 19 (h1 * 6 + i)).toNat else rBf R h1 i)) :: [])) ?_ (fun K => ?_)
        · skip
          refine lv_istore_n (lv' := [(3, Value.int (iI (if rBf R h1 i < y0 R (R 19 (h1 * 6 + i)).toNat then y0 R (R 19 (h1 * 6 + i)).toNat else rBf R h1 i))), (4, Value.int (iI (zB (rIs R h1 i && decide (rBf R h1 i ≤ y0 R (R 19 (h1 * 6 + i)).toNat))))), (6, Value.int (iI (((R 19 (h1 * 6 + i)).toNat : Nat) : Int))), (5, Value.int (iI (i : Int))), (0, Value.ref (ma 0)), (1, Value.ref fa), (2, Value.int (iI (h1 : Int)))]) hx hb dX10_isGood_90 rfl hl (by decide) rfl (fun ls hl => ?_)
          refine zi_inc (v := ((i + 1 : Nat) : Int)) (lv' := [(5, Value.int (iI ((i + 1 : Nat) : Int))), (3, Value.int (iI (if rBf R h1 i < y0 R (R 19 (h1 * 6 + i)).toNat then y0 R (R 19 (h1 * 6 + i)).toNat else rBf R h1 i))), (4, Value.int (iI (zB (rIs R h1 i && decide (rBf R h1 i ≤ y0 R (R 19 (h1 * 6 + i)).toNat))))), (6, Value.int (iI (((R 19 (h1 * 6 + i)).toNat : Nat) : Int))), (0, Value.ref (ma 0)), (1, Value.ref fa), (2, Value.int (iI (h1 : Int)))]) hx hb dX10_isGood_91 hl (k := 3) rfl (by omega) (by decide) rfl (fun ls hl => ?_)
          refine lv_goto (tgt := 8) hx hb dX10_isGood_94 (by decide) ?_
          have hb_12 : (((i + 1) : Nat) : Int) = ((i + 1 : Nat) : Int) := by first | rfl | omega | (simp [c_5, c_8]; done)
          have hb_13 : zB (rIs R h1 (i + 1)) = zB (rIs R h1 i && decide (rBf R h1 i ≤ y0 R (R 19 (h1 * 6 + i)).toNat)) := by rw [rIs]; first | rw [if_pos (by omega)] | rw [if_neg (by omega)]
          have hb_14 : rBf R h1 (i + 1) = if rBf R h1 i < y0 R (R 19 (h1 * 6 + i)).toNat then y0 R (R 19 (h1 * 6 + i)).toNat else rBf R h1 i := by rw [rBf]; first | rw [if_pos (by omega)] | rw [if_neg (by omega)]
          exact ih_8 hl_i (M_7) (AG_t (hJ_i) hgM_7) _ _ _ hP hD hS (lv_eq (lv_sub hl [0, 2, 1, 4, 5, 6] rfl) (by show [(5, Value.int (iI (((i + 1) : Nat) : Int))), (4, Value.int (iI (zB (rIs R h1 (i + 1))))), (3, Value.int (iI (rBf R h1 (i + 1)))), (0, Value.ref (ma 0)), (1, Value.ref fa), (2, Value.int (iI (h1 : Int)))] = [(5, Value.int (iI ((i + 1 : Nat) : Int))), (4, Value.int (iI (zB (rIs R h1 i && decide (rBf R h1 i ≤ y0 R (R 19 (h1 * 6 + i)).toNat))))), (3, Value.int (iI (if rBf R h1 i < y0 R (R 19 (h1 * 6 + i)).toNat then y0 R (R 19 (h1 * 6 + i)).toNat else rBf R h1 i))), (0, Value.ref (ma 0)), (1, Value.ref fa), (2, Value.int (iI (h1 : Int)))]; rw [hb_12, hb_13, hb_14]))
        · skip
          refine lv_aload_n hx hb dX10_isGood_68 rfl (lv_at hl 5 rfl) ?_
          refine lv_iload hx hb dX10_isGood_69 (lv_at hl 1 rfl) ?_
          refine lv_iconst (v := iI 0) hx hb dX10_isGood_71 (by decide) ?_
          refine ro_S (As := [Value.ref fa, Value.int (iI (((R 19 (h1 * 6 + i)).toNat : Nat) : Int)), Value.int (iI 0)]) (rest := []) (v := some (Value.int (iI (y0 R ((R 19 (h1 * 6 + i)).toNat))))) ⟨hx, hb, hml, hown, hts⟩ (c_X10_yearsOf l g τ fa R hI ((R 19 (h1 * 6 + i)).toNat) (by omega) 0 (by omega)) gX10_isGood_X10_yearsOf cd_X10_yearsOf rfl ⟨rfl, rfl⟩ ⟨Nat.le_of_ble_eq_true rfl, Nat.le_of_ble_eq_true rfl⟩ hK (cut_P (is := [1]) hP rfl) rfl hl rfl (Nat.le_of_ble_eq_true rfl) dX10_isGood_72 ⟨Nat.le_of_ble_eq_true rfl, Nat.le_of_ble_eq_true rfl⟩ ?_
          refine tl_some ?_
          have := rY_b hI (lo := sLo R ((R 19 (h1 * 6 + i)).toNat)) (hi := sHi R ((R 19 (h1 * 6 + i)).toNat)) (w := rMask R ((R 19 (h1 * 6 + i)).toNat)) (sLo_b hI _) (sHi_b hI _) 0
          have := y0_b hI ((R 19 (h1 * 6 + i)).toNat)
          refine lv_iload_n hx hb dX10_isGood_75 rfl (lv_at hl 3 rfl) ?_
          refine zi_icmp_le (tgt := 89) hx hb ⟨by omega, by omega⟩ ⟨by omega, by omega⟩ dX10_isGood_76 (by decide) (fun c_15 => ?_) (fun c_15 => ?_)
          · have _ := c_15
            refine lv_iload_n hx hb dX10_isGood_89 rfl (lv_at hl 3 rfl) ?_
            exact cv_i (congrArg iI (Eq.symm (show (if rBf R h1 i < y0 R (R 19 (h1 * 6 + i)).toNat then y0 R (R 19 (h1 * 6 + i)).toNat else rBf R h1 i) = (rBf R h1 i) from by first | rw [if_pos (by omega)] | rw [if_neg (by omega)]))) K
          · have _ := c_15
            refine lv_aload_n hx hb dX10_isGood_79 rfl (lv_at hl 5 rfl) ?_
            refine lv_iload hx hb dX10_isGood_80 (lv_at hl 1 rfl) ?_
            refine lv_iconst (v := iI 0) hx hb dX10_isGood_82 (by decide) ?_
            refine ro_S (As := [Value.ref fa, Value.int (iI (((R 19 (h1 * 6 + i)).toNat : Nat) : Int)), Value.int (iI 0)]) (rest := []) (v := some (Value.int (iI (y0 R ((R 19 (h1 * 6 + i)).toNat))))) ⟨hx, hb, hml, hown, hts⟩ (c_X10_yearsOf l g τ fa R hI ((R 19 (h1 * 6 + i)).toNat) (by omega) 0 (by omega)) gX10_isGood_X10_yearsOf cd_X10_yearsOf rfl ⟨rfl, rfl⟩ ⟨Nat.le_of_ble_eq_true rfl, Nat.le_of_ble_eq_true rfl⟩ hK (cut_P (is := [1]) hP rfl) rfl hl rfl (Nat.le_of_ble_eq_true rfl) dX10_isGood_83 ⟨Nat.le_of_ble_eq_true rfl, Nat.le_of_ble_eq_true rfl⟩ ?_
            refine tl_some ?_
            have := rY_b hI (lo := sLo R ((R 19 (h1 * 6 + i)).toNat)) (hi := sHi R ((R 19 (h1 * 6 + i)).toNat)) (w := rMask R ((R 19 (h1 * 6 + i)).toNat)) (sLo_b hI _) (sHi_b hI _) 0
            have := y0_b hI ((R 19 (h1 * 6 + i)).toNat)
            refine lv_goto (tgt := 90) hx hb dX10_isGood_86 (by decide) ?_
            exact cv_i (congrArg iI (Eq.symm (show (if rBf R h1 i < y0 R (R 19 (h1 * 6 + i)).toNat then y0 R (R 19 (h1 * 6 + i)).toNat else rBf R h1 i) = (y0 R ((R 19 (h1 * 6 + i)).toNat)) from by first | rw [if_pos (by omega)] | rw [if_neg (by omega)]))) K
      · skip
        refine lv_iload hx hb dX10_isGood_45 (lv_at hl 2 rfl) ?_
        refine zb_if_eq (tgt := 65) hx hb dX10_isGood_47 (by decide) (fun c_16 => ?_) (fun c_16 => ?_)
        · have _ := c_16
          refine lv_iconst (v := iI 0) hx hb dX10_isGood_65 (by decide) ?_
          exact cv_i (congrArg iI (Eq.symm (show (zB (rIs R h1 i && decide (rBf R h1 i ≤ y0 R (R 19 (h1 * 6 + i)).toNat))) = 0 from by first | (rw [show rIs R h1 i = false from by assumption]; rfl) | (rw [show rIs R h1 i = true from by assumption]; first | (rw [decide_eq_true (by omega)]; rfl) | (rw [decide_eq_false (by omega)]; rfl))))) K
        · have _ := c_16
          refine lv_aload_n hx hb dX10_isGood_50 rfl (lv_at hl 5 rfl) ?_
          refine lv_iload hx hb dX10_isGood_51 (lv_at hl 0 rfl) ?_
          refine lv_iconst (v := iI 0) hx hb dX10_isGood_53 (by decide) ?_
          refine ro_S (As := [Value.ref fa, Value.int (iI (((R 19 (h1 * 6 + i)).toNat : Nat) : Int)), Value.int (iI 0)]) (rest := []) (v := some (Value.int (iI (y0 R ((R 19 (h1 * 6 + i)).toNat))))) ⟨hx, hb, hml, hown, hts⟩ (c_X10_yearsOf l g τ fa R hI ((R 19 (h1 * 6 + i)).toNat) (by omega) 0 (by omega)) gX10_isGood_X10_yearsOf cd_X10_yearsOf rfl ⟨rfl, rfl⟩ ⟨Nat.le_of_ble_eq_true rfl, Nat.le_of_ble_eq_true rfl⟩ hK (cut_P (is := [1]) hP rfl) rfl hl rfl (Nat.le_of_ble_eq_true rfl) dX10_isGood_54 ⟨Nat.le_of_ble_eq_true rfl, Nat.le_of_ble_eq_true rfl⟩ ?_
          refine tl_some ?_
          have := rY_b hI (lo := sLo R ((R 19 (h1 * 6 + i)).toNat)) (hi := sHi R ((R 19 (h1 * 6 + i)).toNat)) (w := rMask R ((R 19 (h1 * 6 + i)).toNat)) (sLo_b hI _) (sHi_b hI _) 0
          have := y0_b hI ((R 19 (h1 * 6 + i)).toNat)
          refine lv_iload_n hx hb dX10_isGood_57 rfl (lv_at hl 3 rfl) ?_
          refine zi_icmp_lt (tgt := 65) hx hb ⟨by omega, by omega⟩ ⟨by omega, by omega⟩ dX10_isGood_58 (by decide) (fun c_17 => ?_) (fun c_17 => ?_)
          · have _ := c_17
            refine lv_iconst (v := iI 0) hx hb dX10_isGood_65 (by decide) ?_
            exact cv_i (congrArg iI (Eq.symm (show (zB (rIs R h1 i && decide (rBf R h1 i ≤ y0 R (R 19 (h1 * 6 + i)).toNat))) = 0 from by first | (rw [show rIs R h1 i = false from by assumption]; rfl) | (rw [show rIs R h1 i = true from by assumption]; first | (rw [decide_eq_true (by omega)]; rfl) | (rw [decide_eq_false (by omega)]; rfl))))) K
          · have _ := c_17
            refine lv_iconst (v := iI 1) hx hb dX10_isGood_61 (by decide) ?_
            refine lv_goto (tgt := 66) hx hb dX10_isGood_62 (by decide) ?_
            exact cv_i (congrArg iI (Eq.symm (show (zB (rIs R h1 i && decide (rBf R h1 i ≤ y0 R (R 19 (h1 * 6 + i)).toNat))) = 1 from by first | (rw [show rIs R h1 i = false from by assumption]; rfl) | (rw [show rIs R h1 i = true from by assumption]; first | (rw [decide_eq_true (by omega)]; rfl) | (rw [decide_eq_false (by omega)]; rfl))))) K

theorem cd_X10_bad : cd yX10_bad 1 := by decide +kernel
set_option maxHeartbeats 1000000 in
set_option maxRecDepth 100000 in
theorem c_X10_bad (l : Launch) (g : va_G) (τ : Nat → ClassId) (ma : Nat → Nat) (M : Nat → Int) (fa : Nat) (R : Nat → Nat → Int) (hI : SI R)  : Met l yX10_bad wsX10_bad { frames := 8, cells := 0, slots := 0, locals := 192 } (va_Pc [Value.ref (ma 0), Value.ref fa] (rwW g τ ([moO ma M, arC fa (τ 0) 291 (flR R)]))) (rwQ g (fun v w => v = some (Value.int (iI (rBad R 6))) ∧ ∃ M2, AG M M2 ∧ w = [moO ma M2, arC fa (τ 0) 291 (flR R)]) (inW ([moO ma M, arC fa (τ 0) 291 (flR R)]))) 0 0 (inW ([moO ma M, arC fa (τ 0) 291 (flR R)])) := by
  have hB := hI.hB
  have hr0 := hI.r
  have hd0 := hI.d
  have hs0 := hI.s
  refine rwMet (cc := cX10_bad) (maxL := 4) (ret := (some .int)) (lv := [(0, Value.ref (ma 0)), (1, Value.ref fa)]) (by decide) rfl (Nat.le_of_ble_eq_true rfl) rfl ?_
  intro p e s m below meth c hx hb hr hml hts hown hlocks A H hP hD hS hK ls hl
  refine lv_iconst (v := iI 0) hx hb dX10_bad_0 (by decide) ?_
  refine lv_istore_n (lv' := [(2, Value.int (iI 0)), (0, Value.ref (ma 0)), (1, Value.ref fa)]) hx hb dX10_bad_1 rfl hl (by decide) rfl (fun ls hl => ?_)
  refine lv_iconst (v := iI 0) hx hb dX10_bad_2 (by decide) ?_
  refine lv_istore_n (lv' := [(3, Value.int (iI 0)), (2, Value.int (iI 0)), (0, Value.ref (ma 0)), (1, Value.ref fa)]) hx hb dX10_bad_3 rfl hl (by decide) rfl (fun ls hl => ?_)
  have h0_1 : rBad R 0 = 0 := rfl
  have hP : va_P g vwCl ([moO ma M, arC fa (τ 0) 291 (flR R)]) H := by first | exact hP | (exact hP)
  have hD : va_D A ([moO ma M, arC fa (τ 0) 291 (flR R)]) := by first | exact hD | (exact hD)
  refine lp_upX (fun i => [(3, Value.int (iI (i : Int))), (2, Value.int (iI (rBad R i))), (0, Value.ref (ma 0)), (1, Value.ref fa)]) (fun i M_2 => [moO ma M_2, arC fa (τ 0) 291 (flR R)]) (fun i M_2 => AG M M_2) (6) (0) (M) (by omega) hP hD hS (AG_r _) (lv_eq (lv_sub hl [0, 1, 2, 3] rfl) (by show [(3, Value.int (iI 0)), (2, Value.int (iI (rBad R 0))), (0, Value.ref (ma 0)), (1, Value.ref fa)] = [(3, Value.int (iI 0)), (2, Value.int (iI 0)), (0, Value.ref (ma 0)), (1, Value.ref fa)]; rw [h0_1])) (fun i h0_i hi_i M_2 hJ_i ih_4 H locs hP hD hS ls hl => ?_)
  have hfM_2_0 : M_2 0 = M 0 := hJ_i 0 (by decide)
  have hfM_2_5 : M_2 5 = M 5 := hJ_i 5 (by decide)
  have hfM_2_9 : M_2 9 = M 9 := hJ_i 9 (by decide)
  have hfM_2_10 : M_2 10 = M 10 := hJ_i 10 (by decide)
  have hfM_2_11 : M_2 11 = M 11 := hJ_i 11 (by decide)
  have hfM_2_12 : M_2 12 = M 12 := hJ_i 12 (by decide)
  refine lv_iload_n hx hb dX10_bad_4 rfl (lv_at hl 0 rfl) ?_
  refine lv_bipush (v := iI 6) hx hb dX10_bad_5 (by decide) ?_
  refine zi_icmp_ge (tgt := 33) hx hb ⟨by omega, by omega⟩ ⟨by decide, by decide⟩ dX10_bad_7 (by decide) (fun c_3 => ?_) (fun c_3 => ?_)
  · have _ := c_3
    have h0_i : i = 6 := by omega
    refine lv_iload_n hx hb dX10_bad_33 rfl (lv_at hl 1 rfl) ?_
    exact rw_iret hx hb hr hlocks hP hS (⟨by rw [h0_i], _, (hJ_i), rfl⟩) dX10_bad_34
  · have _ := c_3
    have hl_i : i < 6 := by omega
    refine lv_iload_n hx hb dX10_bad_10 rfl (lv_at hl 1 rfl) ?_
    refine lv_aload_n hx hb dX10_bad_11 rfl (lv_at hl 2 rfl) ?_
    refine lv_aload_n hx hb dX10_bad_12 rfl (lv_at hl 3 rfl) ?_
    refine lv_iload_n hx hb dX10_bad_13 rfl (lv_at hl 0 rfl) ?_
    refine rw_V (As := [Value.ref fa, Value.int (iI (i : Int))]) (rest := [Value.int (iI (rBad R i))]) ⟨hx, hb, hml, hown, hts⟩ (c_X10_isGood l g τ ma M_2 fa R hI i (by omega)) gX10_bad_X10_isGood cd_X10_isGood rfl rfl ⟨rfl, rfl⟩ ⟨Nat.le_of_ble_eq_true rfl, Nat.le_of_ble_eq_true rfl⟩ hK hP hD hS [0, 1] (rfl) (by decide) 0 rfl rfl rfl rfl hl rfl (Nat.le_of_ble_eq_true rfl) dX10_bad_14 ⟨Nat.le_of_ble_eq_true rfl, Nat.le_of_ble_eq_true rfl⟩ (fun v w h => by obtain ⟨-, M9, -, rfl⟩ := h; rfl) (fun v w1 H locs hZ hP hD hS => ?_)
    obtain ⟨rfl, M_4, hgM_4, rfl⟩ := hZ
    have hP : va_P g vwCl ([moO ma M_4, arC fa (τ 0) 291 (flR R)]) H := hP
    have hD : va_D A ([moO ma M_4, arC fa (τ 0) 291 (flR R)]) := hD
    have hfM_4_0 : M_4 0 = M_2 0 := hgM_4 0 (by decide)
    have hfM_4_5 : M_4 5 = M_2 5 := hgM_4 5 (by decide)
    have hfM_4_9 : M_4 9 = M_2 9 := hgM_4 9 (by decide)
    have hfM_4_10 : M_4 10 = M_2 10 := hgM_4 10 (by decide)
    have hfM_4_11 : M_4 11 = M_2 11 := hgM_4 11 (by decide)
    have hfM_4_12 : M_4 12 = M_2 12 := hgM_4 12 (by decide)
    refine tl_some ?_
    refine zb_if_eq (tgt := 24) hx hb dX10_bad_17 (by decide) (fun c_5 => ?_) (fun c_5 => ?_)
    · have _ := c_5
      refine lv_iconst (v := iI 1) hx hb dX10_bad_24 (by decide) ?_
      refine zi_add hx hb dX10_bad_25 ?_
      refine lv_istore_n (lv' := [(2, Value.int (iI ((rBad R i) + 1))), (3, Value.int (iI (i : Int))), (0, Value.ref (ma 0)), (1, Value.ref fa)]) hx hb dX10_bad_26 rfl hl (by decide) rfl (fun ls hl => ?_)
      refine zi_inc (v := ((i + 1 : Nat) : Int)) (lv' := [(3, Value.int (iI ((i + 1 : Nat) : Int))), (2, Value.int (iI ((rBad R i) + 1))), (0, Value.ref (ma 0)), (1, Value.ref fa)]) hx hb dX10_bad_27 hl (k := 1) rfl (by omega) (by decide) rfl (fun ls hl => ?_)
      refine lv_goto (tgt := 4) hx hb dX10_bad_30 (by decide) ?_
      have hb_6 : (((i + 1) : Nat) : Int) = ((i + 1 : Nat) : Int) := by first | rfl | omega | (simp [c_3, c_5]; done)
      have hb_7 : rBad R (i + 1) = (rBad R i) + 1 := by unfold rBad; first | (rw [cnt_t (by rw [show rIs R i (R 18 i).toNat = false from by assumption]; rfl)]) | (rw [cnt_f (by rw [show rIs R i (R 18 i).toNat = true from by assumption]; rfl)]; omega)
      exact ih_4 hl_i (M_4) (AG_t (hJ_i) hgM_4) _ _ _ hP hD hS (lv_eq (lv_sub hl [0, 1, 2, 3] rfl) (by show [(3, Value.int (iI (((i + 1) : Nat) : Int))), (2, Value.int (iI (rBad R (i + 1)))), (0, Value.ref (ma 0)), (1, Value.ref fa)] = [(3, Value.int (iI ((i + 1 : Nat) : Int))), (2, Value.int (iI ((rBad R i) + 1))), (0, Value.ref (ma 0)), (1, Value.ref fa)]; rw [hb_6, hb_7]))
    · have _ := c_5
      refine lv_iconst (v := iI 0) hx hb dX10_bad_20 (by decide) ?_
      refine lv_goto (tgt := 25) hx hb dX10_bad_21 (by decide) ?_
      refine zi_add hx hb dX10_bad_25 ?_
      refine lv_istore_n (lv' := [(2, Value.int (iI ((rBad R i) + 0))), (3, Value.int (iI (i : Int))), (0, Value.ref (ma 0)), (1, Value.ref fa)]) hx hb dX10_bad_26 rfl hl (by decide) rfl (fun ls hl => ?_)
      refine zi_inc (v := ((i + 1 : Nat) : Int)) (lv' := [(3, Value.int (iI ((i + 1 : Nat) : Int))), (2, Value.int (iI ((rBad R i) + 0))), (0, Value.ref (ma 0)), (1, Value.ref fa)]) hx hb dX10_bad_27 hl (k := 1) rfl (by omega) (by decide) rfl (fun ls hl => ?_)
      refine lv_goto (tgt := 4) hx hb dX10_bad_30 (by decide) ?_
      have hb_8 : (((i + 1) : Nat) : Int) = ((i + 1 : Nat) : Int) := by first | rfl | omega | (simp [c_3, c_5]; done)
      have hb_9 : rBad R (i + 1) = (rBad R i) + 0 := by unfold rBad; first | (rw [cnt_t (by rw [show rIs R i (R 18 i).toNat = false from by assumption]; rfl)]) | (rw [cnt_f (by rw [show rIs R i (R 18 i).toNat = true from by assumption]; rfl)]; omega)
      exact ih_4 hl_i (M_4) (AG_t (hJ_i) hgM_4) _ _ _ hP hD hS (lv_eq (lv_sub hl [0, 1, 2, 3] rfl) (by show [(3, Value.int (iI (((i + 1) : Nat) : Int))), (2, Value.int (iI (rBad R (i + 1)))), (0, Value.ref (ma 0)), (1, Value.ref fa)] = [(3, Value.int (iI ((i + 1 : Nat) : Int))), (2, Value.int (iI ((rBad R i) + 0))), (0, Value.ref (ma 0)), (1, Value.ref fa)]; rw [hb_8, hb_9]))

theorem cd_X10_rank : cd yX10_rank 2 := by decide +kernel
set_option maxHeartbeats 1000000 in
set_option maxRecDepth 100000 in
theorem c_X10_rank (l : Launch) (g : va_G) (τ : Nat → ClassId) (ma : Nat → Nat) (M : Nat → Int) (fa : Nat) (R : Nat → Nat → Int) (hI : SI R) (s1 : Nat) (hs : (s1 : Int) < R 10 0)  : Met l yX10_rank wsX10_rank { frames := 7, cells := 0, slots := 0, locals := 166 } (va_Pc [Value.ref (ma 0), Value.ref fa, Value.int (iI (s1 : Int))] (rwW g τ ([moO ma M, arC fa (τ 0) 291 (flR R)]))) (rwQ g (fun v w => v = some (Value.int (iI (rRk R s1))) ∧ ∃ M2, AG M M2 ∧ w = [moO ma M2, arC fa (τ 0) 291 (flR R)]) (inW ([moO ma M, arC fa (τ 0) 291 (flR R)]))) 0 0 (inW ([moO ma M, arC fa (τ 0) 291 (flR R)])) := by
  have hB := hI.hB
  have hr0 := hI.r
  have hd0 := hI.d
  have hs0 := hI.s
  refine rwMet (cc := cX10_rank) (maxL := 3) (ret := (some .int)) (lv := [(0, Value.ref (ma 0)), (1, Value.ref fa), (2, Value.int (iI (s1 : Int)))]) (by decide) rfl (Nat.le_of_ble_eq_true rfl) rfl ?_
  intro p e s m below meth c hx hb hr hml hts hown hlocks A H hP hD hS hK ls hl
  refine lv_aload_n hx hb dX10_rank_0 rfl (lv_at hl 0 rfl) ?_
  refine lv_aload_n hx hb dX10_rank_1 rfl (lv_at hl 1 rfl) ?_
  refine lv_iload_n hx hb dX10_rank_2 rfl (lv_at hl 2 rfl) ?_
  refine rw_V (As := [Value.ref fa, Value.int (iI (s1 : Int))]) (rest := []) ⟨hx, hb, hml, hown, hts⟩ (c_X10_fake l g τ ma M fa R hI s1 (by omega)) gX10_rank_X10_fake cd_X10_fake rfl rfl ⟨rfl, rfl⟩ ⟨Nat.le_of_ble_eq_true rfl, Nat.le_of_ble_eq_true rfl⟩ hK hP hD hS [0, 1] (rfl) (by decide) 0 rfl rfl rfl rfl hl rfl (Nat.le_of_ble_eq_true rfl) dX10_rank_3 ⟨Nat.le_of_ble_eq_true rfl, Nat.le_of_ble_eq_true rfl⟩ (fun v w h => by obtain ⟨-, M9, -, rfl⟩ := h; rfl) (fun v w1 H locs hZ hP hD hS => ?_)
  obtain ⟨rfl, M_1, hgM_1, rfl⟩ := hZ
  have hP : va_P g vwCl ([moO ma M_1, arC fa (τ 0) 291 (flR R)]) H := hP
  have hD : va_D A ([moO ma M_1, arC fa (τ 0) 291 (flR R)]) := hD
  have hfM_1_0 : M_1 0 = M 0 := hgM_1 0 (by decide)
  have hfM_1_5 : M_1 5 = M 5 := hgM_1 5 (by decide)
  have hfM_1_9 : M_1 9 = M 9 := hgM_1 9 (by decide)
  have hfM_1_10 : M_1 10 = M 10 := hgM_1 10 (by decide)
  have hfM_1_11 : M_1 11 = M 11 := hgM_1 11 (by decide)
  have hfM_1_12 : M_1 12 = M 12 := hgM_1 12 (by decide)
  have := rFk_b R s1
  refine tl_some ?_
  refine zi_if_le (tgt := 15) hx hb ⟨by omega, by omega⟩ dX10_rank_6 (by decide) (fun c_2 => ?_) (fun c_2 => ?_)
  · have _ := c_2
    refine lv_aload_n hx hb dX10_rank_15 rfl (lv_at hl 1 rfl) ?_
    refine lv_iload_n hx hb dX10_rank_16 rfl (lv_at hl 2 rfl) ?_
    refine lv_iconst (v := iI 0) hx hb dX10_rank_17 (by decide) ?_
    refine ro_S (As := [Value.ref fa, Value.int (iI (s1 : Int)), Value.int (iI 0)]) (rest := []) (v := some (Value.int (iI (y0 R s1)))) ⟨hx, hb, hml, hown, hts⟩ (c_X10_yearsOf l g τ fa R hI s1 (by omega) 0 (by omega)) gX10_rank_X10_yearsOf cd_X10_yearsOf rfl ⟨rfl, rfl⟩ ⟨Nat.le_of_ble_eq_true rfl, Nat.le_of_ble_eq_true rfl⟩ hK (cut_P (is := [1]) hP rfl) rfl hl rfl (Nat.le_of_ble_eq_true rfl) dX10_rank_18 ⟨Nat.le_of_ble_eq_true rfl, Nat.le_of_ble_eq_true rfl⟩ ?_
    refine tl_some ?_
    have := rY_b hI (lo := sLo R s1) (hi := sHi R s1) (w := rMask R s1) (sLo_b hI _) (sHi_b hI _) 0
    have := y0_b hI s1
    exact rw_iret hx hb hr hlocks hP hS (⟨by rw [rRk]; first | rw [if_pos (by omega)] | rw [if_neg (by omega)], _, (AG_t (AG_r _) hgM_1), rfl⟩) dX10_rank_21
  · have _ := c_2
    refine lv_sipush (v := iI 2000) hx hb dX10_rank_9 (by decide) ?_
    refine lv_goto (tgt := 21) hx hb dX10_rank_12 (by decide) ?_
    exact rw_iret hx hb hr hlocks hP hS (⟨by rw [rRk]; first | rw [if_pos (by omega)] | rw [if_neg (by omega)], _, (AG_t (AG_r _) hgM_1), rfl⟩) dX10_rank_21

theorem cd_X10_goSort : cd yX10_goSort 2 := by decide +kernel
theorem in_X10_goSort_X10 : ∀ w ∈ wsX100, w ∈ wsX10_goSort := by decide +kernel
set_option maxHeartbeats 4000000 in
set_option maxRecDepth 100000 in
theorem c_X10_goSort (l : Launch) (g : va_G) (τ : Nat → ClassId) (ma : Nat → Nat) (M : Nat → Int) (fa : Nat) (R : Nat → Nat → Int) (hI : SI R) (h1 : Nat) (hh : h1 < 6) (P0 : Nat → Int)  : Met l yX10_goSort wsX10_goSort { frames := 8, cells := 0, slots := 0, locals := 188 } (va_Pc [Value.ref (ma 0), Value.ref fa, Value.int (iI (h1 : Int))] (rwW g τ ([moO ma M, arC fa (τ 0) 291 (flR R), arC (ma 17) (τ 0) 6 P0]))) (rwQ g (fun v w => v = some (Value.int (iI (oN R h1 (R 18 h1).toNat))) ∧ ∃ M2, AG M M2 ∧ w = [moO ma M2, arC fa (τ 0) 291 (flR (oR R h1 P0)), arC (ma 17) (τ 0) 6 (oPl R h1 P0 (R 18 h1).toNat)]) (inW ([moO ma M, arC fa (τ 0) 291 (flR R), arC (ma 17) (τ 0) 6 P0]))) 0 0 (inW ([moO ma M, arC fa (τ 0) 291 (flR R), arC (ma 17) (τ 0) 6 P0])) := by
  have hB := hI.hB
  have hr0 := hI.r
  have hd0 := hI.d
  have hs0 := hI.s
  have hN := hI.hN h1 hh
  refine rwMet (cc := cX10_goSort) (maxL := 10) (ret := (some .int)) (lv := [(0, Value.ref (ma 0)), (1, Value.ref fa), (2, Value.int (iI (h1 : Int)))]) (by decide) rfl (Nat.le_of_ble_eq_true rfl) rfl ?_
  intro p e s m below meth c hx hb hr hml hts hown hlocks A H hP hD hS hK ls hl
  refine lv_iconst (v := iI 0) hx hb dX10_goSort_0 (by decide) ?_
  refine lv_istore_n (lv' := [(3, Value.int (iI 0)), (0, Value.ref (ma 0)), (1, Value.ref fa), (2, Value.int (iI (h1 : Int)))]) hx hb dX10_goSort_1 rfl hl (by decide) rfl (fun ls hl => ?_)
  refine lv_sipush (v := iI 255) hx hb dX10_goSort_2 (by decide) ?_
  refine lv_bipush (v := iI 6) hx hb dX10_goSort_5 (by decide) ?_
  refine lv_iload_n hx hb dX10_goSort_7 rfl (lv_at hl 3 rfl) ?_
  refine zi_mul hx hb dX10_goSort_8 ?_
  refine zi_add hx hb dX10_goSort_9 ?_
  refine lv_istore (lv' := [(4, Value.int (iI (255 + (6 * (h1 : Int))))), (3, Value.int (iI 0)), (0, Value.ref (ma 0)), (1, Value.ref fa), (2, Value.int (iI (h1 : Int)))]) hx hb dX10_goSort_10 hl (by decide) rfl (fun ls hl => ?_)
  refine lv_iconst (v := iI 0) hx hb dX10_goSort_12 (by decide) ?_
  refine lv_istore (lv' := [(5, Value.int (iI 0)), (4, Value.int (iI (255 + (6 * (h1 : Int))))), (3, Value.int (iI 0)), (0, Value.ref (ma 0)), (1, Value.ref fa), (2, Value.int (iI (h1 : Int)))]) hx hb dX10_goSort_13 hl (by decide) rfl (fun ls hl => ?_)
  have h0_1 : oN R h1 0 = 0 := rfl
  have hP : va_P g vwCl ([moO ma M, arC fa (τ 0) 291 (flR R), arC (ma 17) (τ 0) 6 (oPl R h1 P0 0)]) H := by first | exact hP | (exact hP)
  have hD : va_D A ([moO ma M, arC fa (τ 0) 291 (flR R), arC (ma 17) (τ 0) 6 (oPl R h1 P0 0)]) := by first | exact hD | (exact hD)
  refine lp_upX (fun i => [(5, Value.int (iI (i : Int))), (4, Value.int (iI (255 + (6 * (h1 : Int))))), (3, Value.int (iI (oN R h1 i))), (0, Value.ref (ma 0)), (1, Value.ref fa), (2, Value.int (iI (h1 : Int)))]) (fun i M_2 => [moO ma M_2, arC fa (τ 0) 291 (flR R), arC (ma 17) (τ 0) 6 (oPl R h1 P0 i)]) (fun i M_2 => AG M M_2) ((R 18 h1).toNat) (0) (M) (by omega) hP hD hS (AG_r _) (lv_eq (lv_sub hl [0, 1, 2, 3, 4, 5] rfl) (by show [(5, Value.int (iI 0)), (4, Value.int (iI (255 + (6 * (h1 : Int))))), (3, Value.int (iI (oN R h1 0))), (0, Value.ref (ma 0)), (1, Value.ref fa), (2, Value.int (iI (h1 : Int)))] = [(5, Value.int (iI 0)), (4, Value.int (iI (255 + (6 * (h1 : Int))))), (3, Value.int (iI 0)), (0, Value.ref (ma 0)), (1, Value.ref fa), (2, Value.int (iI (h1 : Int)))]; rw [h0_1])) (fun i h0_i hi_i M_2 hJ_i ih_15 H locs hP hD hS ls hl => ?_)
  have hfM_2_0 : M_2 0 = M 0 := hJ_i 0 (by decide)
  have hfM_2_5 : M_2 5 = M 5 := hJ_i 5 (by decide)
  have hfM_2_9 : M_2 9 = M 9 := hJ_i 9 (by decide)
  have hfM_2_10 : M_2 10 = M 10 := hJ_i 10 (by decide)
  have hfM_2_11 : M_2 11 = M 11 := hJ_i 11 (by decide)
  have hfM_2_12 : M_2 12 = M 12 := hJ_i 12 (by decide)
  refine lv_iload hx hb dX10_goSort_15 (lv_at hl 0 rfl) ?_
  refine lv_aload_n hx hb dX10_goSort_17 rfl (lv_at hl 4 rfl) ?_
  refine lv_sipush (v := iI 249) hx hb dX10_goSort_18 (by decide) ?_
  refine lv_iload_n hx hb dX10_goSort_21 rfl (lv_at hl 5 rfl) ?_
  refine zi_add hx hb dX10_goSort_22 ?_
  refine zf_ald hx hb hK hP 1 (f := flR R) rfl (249 + h1) (by omega) (by omega) (by decide) (z := R 18 h1) (fl_18 (i := h1) (by omega) (by omega)) dX10_goSort_23 ?_
  have hb_3 := hB 18 h1
  refine zi_icmp_ge (tgt := 145) hx hb ⟨by omega, by omega⟩ ⟨by omega, by omega⟩ dX10_goSort_24 (by decide) (fun c_4 => ?_) (fun c_4 => ?_)
  · have _ := c_4
    have h0_i : i = (R 18 h1).toNat := by omega
    rw [h0_i] at hP hD hl
    refine lv_iconst (v := iI 0) hx hb dX10_goSort_145 (by decide) ?_
    refine lv_istore (lv' := [(5, Value.int (iI 0)), (4, Value.int (iI (255 + (6 * (h1 : Int))))), (3, Value.int (iI (oN R h1 (R 18 h1).toNat))), (0, Value.ref (ma 0)), (1, Value.ref fa), (2, Value.int (iI (h1 : Int)))]) hx hb dX10_goSort_146 hl (by decide) rfl (fun ls hl => ?_)
    have hP : va_P g vwCl ([moO ma M_2, arC fa (τ 0) 291 (flR (u2 R 19 (oW R h1 (oPl R h1 P0 (R 18 h1).toNat) 0))), arC (ma 17) (τ 0) 6 (oPl R h1 P0 ((R 18 h1).toNat))]) H := by rw [show oW R h1 (oPl R h1 P0 (R 18 h1).toNat) 0 = R 19 from rfl, u2_s]; exact hP
    have hD : va_D A ([moO ma M_2, arC fa (τ 0) 291 (flR (u2 R 19 (oW R h1 (oPl R h1 P0 (R 18 h1).toNat) 0))), arC (ma 17) (τ 0) 6 (oPl R h1 P0 ((R 18 h1).toNat))]) := by rw [show oW R h1 (oPl R h1 P0 (R 18 h1).toNat) 0 = R 19 from rfl, u2_s]; exact hD
    refine lp_upX (fun k => [(5, Value.int (iI (k : Int))), (4, Value.int (iI (255 + (6 * (h1 : Int))))), (3, Value.int (iI (oN R h1 (R 18 h1).toNat))), (0, Value.ref (ma 0)), (1, Value.ref fa), (2, Value.int (iI (h1 : Int)))]) (fun k M_5 => [moO ma M_5, arC fa (τ 0) 291 (flR (u2 R 19 (oW R h1 (oPl R h1 P0 (R 18 h1).toNat) k))), arC (ma 17) (τ 0) 6 (oPl R h1 P0 ((R 18 h1).toNat))]) (fun k M_5 => AG M M_5) ((R 18 h1).toNat) (0) (M_2) (by omega) hP hD hS (hJ_i) (lv_eq (lv_sub hl [0, 1, 2, 3, 4, 5] rfl) (by show [(5, Value.int (iI 0)), (4, Value.int (iI (255 + (6 * (h1 : Int))))), (3, Value.int (iI (oN R h1 (R 18 h1).toNat))), (0, Value.ref (ma 0)), (1, Value.ref fa), (2, Value.int (iI (h1 : Int)))] = [(5, Value.int (iI 0)), (4, Value.int (iI (255 + (6 * (h1 : Int))))), (3, Value.int (iI (oN R h1 (R 18 h1).toNat))), (0, Value.ref (ma 0)), (1, Value.ref fa), (2, Value.int (iI (h1 : Int)))]; rfl)) (fun k h0_k hi_k M_5 hJ_k ih_148 H locs hP hD hS ls hl => ?_)
    have hfM_5_0 : M_5 0 = M 0 := hJ_k 0 (by decide)
    have hfM_5_5 : M_5 5 = M 5 := hJ_k 5 (by decide)
    have hfM_5_9 : M_5 9 = M 9 := hJ_k 9 (by decide)
    have hfM_5_10 : M_5 10 = M 10 := hJ_k 10 (by decide)
    have hfM_5_11 : M_5 11 = M 11 := hJ_k 11 (by decide)
    have hfM_5_12 : M_5 12 = M 12 := hJ_k 12 (by decide)
    refine lv_iload hx hb dX10_goSort_148 (lv_at hl 0 rfl) ?_
    refine lv_aload_n hx hb dX10_goSort_150 rfl (lv_at hl 4 rfl) ?_
    refine lv_sipush (v := iI 249) hx hb dX10_goSort_151 (by decide) ?_
    refine lv_iload_n hx hb dX10_goSort_154 rfl (lv_at hl 5 rfl) ?_
    refine zi_add hx hb dX10_goSort_155 ?_
    refine zf_ald hx hb hK hP 1 (f := flR (u2 R 19 (oW R h1 (oPl R h1 P0 (R 18 h1).toNat) k))) rfl (249 + h1) (by omega) (by omega) (by decide) (z := (u2 R 19 (oW R h1 (oPl R h1 P0 (R 18 h1).toNat) k)) 18 h1) (fl_18 (i := h1) (by omega) (by omega)) dX10_goSort_156 ?_
    refine cv_i (y := iI (R 18 h1)) (congrArg iI (rfl)) ?_
    refine zi_icmp_ge (tgt := 180) hx hb ⟨by omega, by omega⟩ ⟨by omega, by omega⟩ dX10_goSort_157 (by decide) (fun c_6 => ?_) (fun c_6 => ?_)
    · have _ := c_6
      have h0_k : k = (R 18 h1).toNat := by omega
      refine lv_iload_n hx hb dX10_goSort_180 rfl (lv_at hl 2 rfl) ?_
      exact rw_iret hx hb hr hlocks hP hS (⟨rfl, _, (hJ_k), by rw [h0_k]; rfl⟩) dX10_goSort_181
    · have _ := c_6
      have hl_k : k < (R 18 h1).toNat := by omega
      refine lv_aload_n hx hb dX10_goSort_160 rfl (lv_at hl 4 rfl) ?_
      refine lv_iload hx hb dX10_goSort_161 (lv_at hl 1 rfl) ?_
      refine lv_iload hx hb dX10_goSort_163 (lv_at hl 0 rfl) ?_
      refine zi_add hx hb dX10_goSort_165 ?_
      refine lv_aload_n hx hb dX10_goSort_166 rfl (lv_at hl 3 rfl) ?_
      refine va_get (D := g) (ci := 10) (v := Value.ref (ma 17)) (C := RX10) (T := TX10) (N := 18) hx hb hts in_X10_goSort_X10 hown hK.1 hP 0 (rfl) rfl 17 (by decide) (hts _ (List.mem_of_getElem? (i := 1) rfl) : (Cond.fieldLink RX10 32 "CordSealsModel" "place" "[I").before _ s = true) (fun _ h9 => h9) rfl dX10_goSort_167 ?_
      refine lv_iload hx hb dX10_goSort_170 (lv_at hl 0 rfl) ?_
      refine zi_ald hx hb hK hP 2 (f := (oPl R h1 P0 ((R 18 h1).toNat))) (rfl) (k) (rfl) (by omega) (by decide) dX10_goSort_172 ?_
      refine zf_ast hx hb hK hP hD hS 1 (f := flR (u2 R 19 (oW R h1 (oPl R h1 P0 (R 18 h1).toNat) k))) (f2 := flR (u2 (u2 R 19 (oW R h1 (oPl R h1 P0 (R 18 h1).toNat) k)) 19 (updZ ((u2 R 19 (oW R h1 (oPl R h1 P0 (R 18 h1).toNat) k)) 19) (h1 * 6 + k) (oPl R h1 P0 ((R 18 h1).toNat) k)))) rfl ((255 + (6 * h1)) + k) (by omega) (by omega) (by decide) (fu_19 (by omega) (by omega)) dX10_goSort_173 (wo := [moO ma M_5, arC fa (τ 0) 291 (flR (u2 (u2 R 19 (oW R h1 (oPl R h1 P0 (R 18 h1).toNat) k)) 19 (updZ ((u2 R 19 (oW R h1 (oPl R h1 P0 (R 18 h1).toNat) k)) 19) (h1 * 6 + k) (oPl R h1 P0 ((R 18 h1).toNat) k)))), arC (ma 17) (τ 0) 6 (oPl R h1 P0 ((R 18 h1).toNat))]) rfl (fun H locs hP hD hS => ?_)
      refine zi_inc (v := ((k + 1 : Nat) : Int)) (lv' := [(5, Value.int (iI ((k + 1 : Nat) : Int))), (4, Value.int (iI (255 + (6 * (h1 : Int))))), (3, Value.int (iI (oN R h1 (R 18 h1).toNat))), (0, Value.ref (ma 0)), (1, Value.ref fa), (2, Value.int (iI (h1 : Int)))]) hx hb dX10_goSort_174 hl (k := 0) rfl (by omega) (by decide) rfl (fun ls hl => ?_)
      refine lv_goto (tgt := 148) hx hb dX10_goSort_177 (by decide) ?_
      have hb_7 : (((k + 1) : Nat) : Int) = ((k + 1 : Nat) : Int) := by first | rfl | omega | (simp [c_4, h0_i, c_6]; done)
      have hw_8 : [moO ma M_5, arC fa (τ 0) 291 (flR (u2 (u2 R 19 (oW R h1 (oPl R h1 P0 (R 18 h1).toNat) k)) 19 (updZ ((u2 R 19 (oW R h1 (oPl R h1 P0 (R 18 h1).toNat) k)) 19) (h1 * 6 + k) (oPl R h1 P0 ((R 18 h1).toNat) k)))), arC (ma 17) (τ 0) 6 (oPl R h1 P0 ((R 18 h1).toNat))] = [moO ma M_5, arC fa (τ 0) 291 (flR (u2 R 19 (oW R h1 (oPl R h1 P0 (R 18 h1).toNat) (k + 1)))), arC (ma 17) (τ 0) 6 (oPl R h1 P0 ((R 18 h1).toNat))] := by rw [u2_sm]; rfl
      rw [hw_8] at hP hD
      exact ih_148 hl_k (M_5) (hJ_k) _ _ _ hP hD hS (lv_eq (lv_sub hl [0, 1, 2, 3, 4, 5] rfl) (by show [(5, Value.int (iI (((k + 1) : Nat) : Int))), (4, Value.int (iI (255 + (6 * (h1 : Int))))), (3, Value.int (iI (oN R h1 (R 18 h1).toNat))), (0, Value.ref (ma 0)), (1, Value.ref fa), (2, Value.int (iI (h1 : Int)))] = [(5, Value.int (iI ((k + 1 : Nat) : Int))), (4, Value.int (iI (255 + (6 * (h1 : Int))))), (3, Value.int (iI (oN R h1 (R 18 h1).toNat))), (0, Value.ref (ma 0)), (1, Value.ref fa), (2, Value.int (iI (h1 : Int)))]; rw [hb_7]))
  · have _ := c_4
    have hl_i : i < (R 18 h1).toNat := by omega
    refine lv_iconst (v := iI 0) hx hb dX10_goSort_27 (by decide) ?_
    refine lv_istore (lv' := [(6, Value.int (iI 0)), (5, Value.int (iI (i : Int))), (4, Value.int (iI (255 + (6 * (h1 : Int))))), (3, Value.int (iI (oN R h1 i))), (0, Value.ref (ma 0)), (1, Value.ref fa), (2, Value.int (iI (h1 : Int)))]) hx hb dX10_goSort_28 hl (by decide) rfl (fun ls hl => ?_)
    refine lv_aload_n hx hb dX10_goSort_30 rfl (lv_at hl 4 rfl) ?_
    refine lv_aload_n hx hb dX10_goSort_31 rfl (lv_at hl 5 rfl) ?_
    refine lv_aload_n hx hb dX10_goSort_32 rfl (lv_at hl 5 rfl) ?_
    refine lv_iload hx hb dX10_goSort_33 (lv_at hl 2 rfl) ?_
    refine lv_iload hx hb dX10_goSort_35 (lv_at hl 1 rfl) ?_
    refine zi_add hx hb dX10_goSort_37 ?_
    have hon := hI.on h1 i hh (by omega)
    refine zf_ald hx hb hK hP 1 (f := flR R) rfl ((255 + (6 * h1)) + i) (by omega) (by omega) (by decide) (z := R 19 (h1 * 6 + i)) (fl_19 (i := h1 * 6 + i) (by omega) (by omega)) dX10_goSort_38 ?_
    have hb_9 := hB 19 (h1 * 6 + i)
    refine cv_i (y := iI (((R 19 (h1 * 6 + i)).toNat : Nat) : Int)) (congrArg iI (by omega)) ?_
    refine rw_V (As := [Value.ref fa, Value.int (iI (((R 19 (h1 * 6 + i)).toNat : Nat) : Int))]) (rest := []) ⟨hx, hb, hml, hown, hts⟩ (c_X10_rank l g τ ma M_2 fa R hI ((R 19 (h1 * 6 + i)).toNat) (by omega)) gX10_goSort_X10_rank cd_X10_rank rfl rfl ⟨rfl, rfl⟩ ⟨Nat.le_of_ble_eq_true rfl, Nat.le_of_ble_eq_true rfl⟩ hK hP hD hS [0, 1] (rfl) (by decide) 0 rfl rfl rfl rfl hl rfl (Nat.le_of_ble_eq_true rfl) dX10_goSort_39 ⟨Nat.le_of_ble_eq_true rfl, Nat.le_of_ble_eq_true rfl⟩ (fun v w h => by obtain ⟨-, M9, -, rfl⟩ := h; rfl) (fun v w1 H locs hZ hP hD hS => ?_)
    obtain ⟨rfl, M_10, hgM_10, rfl⟩ := hZ
    have hP : va_P g vwCl ([moO ma M_10, arC fa (τ 0) 291 (flR R), arC (ma 17) (τ 0) 6 (oPl R h1 P0 i)]) H := hP
    have hD : va_D A ([moO ma M_10, arC fa (τ 0) 291 (flR R), arC (ma 17) (τ 0) 6 (oPl R h1 P0 i)]) := hD
    have hfM_10_0 : M_10 0 = M_2 0 := hgM_10 0 (by decide)
    have hfM_10_5 : M_10 5 = M_2 5 := hgM_10 5 (by decide)
    have hfM_10_9 : M_10 9 = M_2 9 := hgM_10 9 (by decide)
    have hfM_10_10 : M_10 10 = M_2 10 := hgM_10 10 (by decide)
    have hfM_10_11 : M_10 11 = M_2 11 := hgM_10 11 (by decide)
    have hfM_10_12 : M_10 12 = M_2 12 := hgM_10 12 (by decide)
    have := rRk_b hI ((R 19 (h1 * 6 + i)).toNat)
    refine tl_some ?_
    refine lv_istore (lv' := [(7, Value.int (iI (rRk R ((R 19 (h1 * 6 + i)).toNat)))), (6, Value.int (iI 0)), (5, Value.int (iI (i : Int))), (4, Value.int (iI (255 + (6 * (h1 : Int))))), (3, Value.int (iI (oN R h1 i))), (0, Value.ref (ma 0)), (1, Value.ref fa), (2, Value.int (iI (h1 : Int)))]) hx hb dX10_goSort_42 hl (by decide) rfl (fun ls hl => ?_)
    refine lv_iconst (v := iI 0) hx hb dX10_goSort_44 (by decide) ?_
    refine lv_istore (lv' := [(8, Value.int (iI 0)), (7, Value.int (iI (rRk R ((R 19 (h1 * 6 + i)).toNat)))), (6, Value.int (iI 0)), (5, Value.int (iI (i : Int))), (4, Value.int (iI (255 + (6 * (h1 : Int))))), (3, Value.int (iI (oN R h1 i))), (0, Value.ref (ma 0)), (1, Value.ref fa), (2, Value.int (iI (h1 : Int)))]) hx hb dX10_goSort_45 hl (by decide) rfl (fun ls hl => ?_)
    have h0_11 : oAh R h1 i 0 = 0 := rfl
    have hP : va_P g vwCl ([moO ma M_10, arC fa (τ 0) 291 (flR R), arC (ma 17) (τ 0) 6 (oPl R h1 P0 i)]) H := by first | exact hP | (exact hP)
    have hD : va_D A ([moO ma M_10, arC fa (τ 0) 291 (flR R), arC (ma 17) (τ 0) 6 (oPl R h1 P0 i)]) := by first | exact hD | (exact hD)
    refine lp_upX (fun j => [(8, Value.int (iI (j : Int))), (7, Value.int (iI (rRk R ((R 19 (h1 * 6 + i)).toNat)))), (6, Value.int (iI (oAh R h1 i j))), (5, Value.int (iI (i : Int))), (4, Value.int (iI (255 + (6 * (h1 : Int))))), (3, Value.int (iI (oN R h1 i))), (0, Value.ref (ma 0)), (1, Value.ref fa), (2, Value.int (iI (h1 : Int)))]) (fun j M_12 => [moO ma M_12, arC fa (τ 0) 291 (flR R), arC (ma 17) (τ 0) 6 (oPl R h1 P0 i)]) (fun j M_12 => AG M M_12) ((R 18 h1).toNat) (0) (M_10) (by omega) hP hD hS (AG_t (hJ_i) hgM_10) (lv_eq (lv_sub hl [0, 1, 2, 3, 4, 5, 6, 7, 8] rfl) (by show [(8, Value.int (iI 0)), (7, Value.int (iI (rRk R ((R 19 (h1 * 6 + i)).toNat)))), (6, Value.int (iI (oAh R h1 i 0))), (5, Value.int (iI (i : Int))), (4, Value.int (iI (255 + (6 * (h1 : Int))))), (3, Value.int (iI (oN R h1 i))), (0, Value.ref (ma 0)), (1, Value.ref fa), (2, Value.int (iI (h1 : Int)))] = [(8, Value.int (iI 0)), (7, Value.int (iI (rRk R ((R 19 (h1 * 6 + i)).toNat)))), (6, Value.int (iI 0)), (5, Value.int (iI (i : Int))), (4, Value.int (iI (255 + (6 * (h1 : Int))))), (3, Value.int (iI (oN R h1 i))), (0, Value.ref (ma 0)), (1, Value.ref fa), (2, Value.int (iI (h1 : Int)))]; rw [h0_11])) (fun j h0_j hi_j M_12 hJ_j ih_47 H locs hP hD hS ls hl => ?_)
    have hfM_12_0 : M_12 0 = M 0 := hJ_j 0 (by decide)
    have hfM_12_5 : M_12 5 = M 5 := hJ_j 5 (by decide)
    have hfM_12_9 : M_12 9 = M 9 := hJ_j 9 (by decide)
    have hfM_12_10 : M_12 10 = M 10 := hJ_j 10 (by decide)
    have hfM_12_11 : M_12 11 = M 11 := hJ_j 11 (by decide)
    have hfM_12_12 : M_12 12 = M 12 := hJ_j 12 (by decide)
    refine lv_iload hx hb dX10_goSort_47 (lv_at hl 0 rfl) ?_
    refine lv_aload_n hx hb dX10_goSort_49 rfl (lv_at hl 7 rfl) ?_
    refine lv_sipush (v := iI 249) hx hb dX10_goSort_50 (by decide) ?_
    refine lv_iload_n hx hb dX10_goSort_53 rfl (lv_at hl 8 rfl) ?_
    refine zi_add hx hb dX10_goSort_54 ?_
    refine zf_ald hx hb hK hP 1 (f := flR R) rfl (249 + h1) (by omega) (by omega) (by decide) (z := R 18 h1) (fl_18 (i := h1) (by omega) (by omega)) dX10_goSort_55 ?_
    have hb_13 := hB 18 h1
    refine zi_icmp_ge (tgt := 110) hx hb ⟨by omega, by omega⟩ ⟨by omega, by omega⟩ dX10_goSort_56 (by decide) (fun c_14 => ?_) (fun c_14 => ?_)
    · have _ := c_14
      have h0_j : j = (R 18 h1).toNat := by omega
      rw [h0_j] at hl
      have hoa := oAh_b R h1 i (R 18 h1).toNat hl_i
      refine lv_aload_n hx hb dX10_goSort_110 rfl (lv_at hl 6 rfl) ?_
      refine va_get (D := g) (ci := 10) (v := Value.ref (ma 17)) (C := RX10) (T := TX10) (N := 18) hx hb hts in_X10_goSort_X10 hown hK.1 hP 0 (rfl) rfl 17 (by decide) (hts _ (List.mem_of_getElem? (i := 1) rfl) : (Cond.fieldLink RX10 32 "CordSealsModel" "place" "[I").before _ s = true) (fun _ h9 => h9) rfl dX10_goSort_111 ?_
      refine lv_iload hx hb dX10_goSort_114 (lv_at hl 2 rfl) ?_
      refine lv_aload_n hx hb dX10_goSort_116 rfl (lv_at hl 7 rfl) ?_
      refine lv_iload hx hb dX10_goSort_117 (lv_at hl 4 rfl) ?_
      refine lv_iload hx hb dX10_goSort_119 (lv_at hl 3 rfl) ?_
      refine zi_add hx hb dX10_goSort_121 ?_
      refine zf_ald hx hb hK hP 1 (f := flR R) rfl ((255 + (6 * h1)) + i) (by omega) (by omega) (by decide) (z := R 19 (h1 * 6 + i)) (fl_19 (i := h1 * 6 + i) (by omega) (by omega)) dX10_goSort_122 ?_
      have hb_15 := hB 19 (h1 * 6 + i)
      refine zi_ast hx hb hK hP hD hS 2 (f := (oPl R h1 P0 i)) (rfl) ((oAh R h1 i (R 18 h1).toNat).toNat) (by omega) (by omega) (by decide) dX10_goSort_123 (wo := [moO ma M_12, arC fa (τ 0) 291 (flR R), arC (ma 17) (τ 0) 6 (updZ (oPl R h1 P0 i) ((oAh R h1 i (R 18 h1).toNat).toNat) (R 19 (h1 * 6 + i)))]) rfl (fun H locs hP hD hS => ?_)
      refine lv_iload_n hx hb dX10_goSort_124 rfl (lv_at hl 5 rfl) ?_
      refine lv_iload hx hb dX10_goSort_125 (lv_at hl 2 rfl) ?_
      refine lv_iload hx hb dX10_goSort_127 (lv_at hl 3 rfl) ?_
      refine zi_icmp_ne (tgt := 136) hx hb ⟨by omega, by omega⟩ ⟨by omega, by omega⟩ dX10_goSort_129 (by decide) (fun c_16 => ?_) (fun c_16 => ?_)
      · have _ := c_16
        refine lv_iconst (v := iI 1) hx hb dX10_goSort_136 (by decide) ?_
        refine zi_add hx hb dX10_goSort_137 ?_
        refine lv_istore_n (lv' := [(3, Value.int (iI ((oN R h1 i) + 1))), (8, Value.int (iI (((R 18 h1).toNat : Nat) : Int))), (7, Value.int (iI (rRk R ((R 19 (h1 * 6 + i)).toNat)))), (6, Value.int (iI (oAh R h1 i (R 18 h1).toNat))), (5, Value.int (iI (i : Int))), (4, Value.int (iI (255 + (6 * (h1 : Int))))), (0, Value.ref (ma 0)), (1, Value.ref fa), (2, Value.int (iI (h1 : Int)))]) hx hb dX10_goSort_138 rfl hl (by decide) rfl (fun ls hl => ?_)
        refine zi_inc (v := ((i + 1 : Nat) : Int)) (lv' := [(5, Value.int (iI ((i + 1 : Nat) : Int))), (3, Value.int (iI ((oN R h1 i) + 1))), (8, Value.int (iI (((R 18 h1).toNat : Nat) : Int))), (7, Value.int (iI (rRk R ((R 19 (h1 * 6 + i)).toNat)))), (6, Value.int (iI (oAh R h1 i (R 18 h1).toNat))), (4, Value.int (iI (255 + (6 * (h1 : Int))))), (0, Value.ref (ma 0)), (1, Value.ref fa), (2, Value.int (iI (h1 : Int)))]) hx hb dX10_goSort_139 hl (k := 4) rfl (by omega) (by decide) rfl (fun ls hl => ?_)
        refine lv_goto (tgt := 15) hx hb dX10_goSort_142 (by decide) ?_
        have hb_17 : (((i + 1) : Nat) : Int) = ((i + 1 : Nat) : Int) := by first | rfl | omega | (simp [c_4, c_14, h0_j, c_16]; done)
        have hb_18 : oN R h1 (i + 1) = (oN R h1 i) + 1 := by unfold oN; first | (rw [cnt_t (decide_eq_true (by omega))]) | (rw [cnt_f (decide_eq_false (by omega))]; omega)
        have hw_19 : [moO ma M_12, arC fa (τ 0) 291 (flR R), arC (ma 17) (τ 0) 6 (updZ (oPl R h1 P0 i) ((oAh R h1 i (R 18 h1).toNat).toNat) (R 19 (h1 * 6 + i)))] = [moO ma M_12, arC fa (τ 0) 291 (flR R), arC (ma 17) (τ 0) 6 (oPl R h1 P0 (i + 1))] := rfl
        rw [hw_19] at hP hD
        exact ih_15 hl_i (M_12) (hJ_j) _ _ _ hP hD hS (lv_eq (lv_sub hl [0, 5, 1, 6, 7, 8] rfl) (by show [(5, Value.int (iI (((i + 1) : Nat) : Int))), (4, Value.int (iI (255 + (6 * (h1 : Int))))), (3, Value.int (iI (oN R h1 (i + 1)))), (0, Value.ref (ma 0)), (1, Value.ref fa), (2, Value.int (iI (h1 : Int)))] = [(5, Value.int (iI ((i + 1 : Nat) : Int))), (4, Value.int (iI (255 + (6 * (h1 : Int))))), (3, Value.int (iI ((oN R h1 i) + 1))), (0, Value.ref (ma 0)), (1, Value.ref fa), (2, Value.int (iI (h1 : Int)))]; rw [hb_17, hb_18]))
      · have _ := c_16
        refine lv_iconst (v := iI 0) hx hb dX10_goSort_132 (by decide) ?_
        refine lv_goto (tgt := 137) hx hb dX10_goSort_133 (by decide) ?_
        refine zi_add hx hb dX10_goSort_137 ?_
        refine lv_istore_n (lv' := [(3, Value.int (iI ((oN R h1 i) + 0))), (8, Value.int (iI (((R 18 h1).toNat : Nat) : Int))), (7, Value.int (iI (rRk R ((R 19 (h1 * 6 + i)).toNat)))), (6, Value.int (iI (oAh R h1 i (R 18 h1).toNat))), (5, Value.int (iI (i : Int))), (4, Value.int (iI (255 + (6 * (h1 : Int))))), (0, Value.ref (ma 0)), (1, Value.ref fa), (2, Value.int (iI (h1 : Int)))]) hx hb dX10_goSort_138 rfl hl (by decide) rfl (fun ls hl => ?_)
        refine zi_inc (v := ((i + 1 : Nat) : Int)) (lv' := [(5, Value.int (iI ((i + 1 : Nat) : Int))), (3, Value.int (iI ((oN R h1 i) + 0))), (8, Value.int (iI (((R 18 h1).toNat : Nat) : Int))), (7, Value.int (iI (rRk R ((R 19 (h1 * 6 + i)).toNat)))), (6, Value.int (iI (oAh R h1 i (R 18 h1).toNat))), (4, Value.int (iI (255 + (6 * (h1 : Int))))), (0, Value.ref (ma 0)), (1, Value.ref fa), (2, Value.int (iI (h1 : Int)))]) hx hb dX10_goSort_139 hl (k := 4) rfl (by omega) (by decide) rfl (fun ls hl => ?_)
        refine lv_goto (tgt := 15) hx hb dX10_goSort_142 (by decide) ?_
        have hb_20 : (((i + 1) : Nat) : Int) = ((i + 1 : Nat) : Int) := by first | rfl | omega | (simp [c_4, c_14, h0_j, c_16]; done)
        have hb_21 : oN R h1 (i + 1) = (oN R h1 i) + 0 := by unfold oN; first | (rw [cnt_t (decide_eq_true (by omega))]) | (rw [cnt_f (decide_eq_false (by omega))]; omega)
        have hw_22 : [moO ma M_12, arC fa (τ 0) 291 (flR R), arC (ma 17) (τ 0) 6 (updZ (oPl R h1 P0 i) ((oAh R h1 i (R 18 h1).toNat).toNat) (R 19 (h1 * 6 + i)))] = [moO ma M_12, arC fa (τ 0) 291 (flR R), arC (ma 17) (τ 0) 6 (oPl R h1 P0 (i + 1))] := rfl
        rw [hw_22] at hP hD
        exact ih_15 hl_i (M_12) (hJ_j) _ _ _ hP hD hS (lv_eq (lv_sub hl [0, 5, 1, 6, 7, 8] rfl) (by show [(5, Value.int (iI (((i + 1) : Nat) : Int))), (4, Value.int (iI (255 + (6 * (h1 : Int))))), (3, Value.int (iI (oN R h1 (i + 1)))), (0, Value.ref (ma 0)), (1, Value.ref fa), (2, Value.int (iI (h1 : Int)))] = [(5, Value.int (iI ((i + 1 : Nat) : Int))), (4, Value.int (iI (255 + (6 * (h1 : Int))))), (3, Value.int (iI ((oN R h1 i) + 0))), (0, Value.ref (ma 0)), (1, Value.ref fa), (2, Value.int (iI (h1 : Int)))]; rw [hb_20, hb_21]))
    · have _ := c_14
      have hl_j : j < (R 18 h1).toNat := by omega
      refine lv_aload_n hx hb dX10_goSort_59 rfl (lv_at hl 6 rfl) ?_
      refine lv_aload_n hx hb dX10_goSort_60 rfl (lv_at hl 7 rfl) ?_
      refine lv_aload_n hx hb dX10_goSort_61 rfl (lv_at hl 7 rfl) ?_
      refine lv_iload hx hb dX10_goSort_62 (lv_at hl 4 rfl) ?_
      refine lv_iload hx hb dX10_goSort_64 (lv_at hl 0 rfl) ?_
      refine zi_add hx hb dX10_goSort_66 ?_
      have hon2 := hI.on h1 j hh (by omega)
      have hoi : oAt R h1 i = rRk R (R 19 (h1 * 6 + i)).toNat := rfl
      have hoj : oAt R h1 j = rRk R (R 19 (h1 * 6 + j)).toNat := rfl
      refine zf_ald hx hb hK hP 1 (f := flR R) rfl ((255 + (6 * h1)) + j) (by omega) (by omega) (by decide) (z := R 19 (h1 * 6 + j)) (fl_19 (i := h1 * 6 + j) (by omega) (by omega)) dX10_goSort_67 ?_
      have hb_23 := hB 19 (h1 * 6 + j)
      refine cv_i (y := iI (((R 19 (h1 * 6 + j)).toNat : Nat) : Int)) (congrArg iI (by omega)) ?_
      refine rw_V (As := [Value.ref fa, Value.int (iI (((R 19 (h1 * 6 + j)).toNat : Nat) : Int))]) (rest := []) ⟨hx, hb, hml, hown, hts⟩ (c_X10_rank l g τ ma M_12 fa R hI ((R 19 (h1 * 6 + j)).toNat) (by omega)) gX10_goSort_X10_rank cd_X10_rank rfl rfl ⟨rfl, rfl⟩ ⟨Nat.le_of_ble_eq_true rfl, Nat.le_of_ble_eq_true rfl⟩ hK hP hD hS [0, 1] (rfl) (by decide) 0 rfl rfl rfl rfl hl rfl (Nat.le_of_ble_eq_true rfl) dX10_goSort_68 ⟨Nat.le_of_ble_eq_true rfl, Nat.le_of_ble_eq_true rfl⟩ (fun v w h => by obtain ⟨-, M9, -, rfl⟩ := h; rfl) (fun v w1 H locs hZ hP hD hS => ?_)
      obtain ⟨rfl, M_24, hgM_24, rfl⟩ := hZ
      have hP : va_P g vwCl ([moO ma M_24, arC fa (τ 0) 291 (flR R), arC (ma 17) (τ 0) 6 (oPl R h1 P0 i)]) H := hP
      have hD : va_D A ([moO ma M_24, arC fa (τ 0) 291 (flR R), arC (ma 17) (τ 0) 6 (oPl R h1 P0 i)]) := hD
      have hfM_24_0 : M_24 0 = M_12 0 := hgM_24 0 (by decide)
      have hfM_24_5 : M_24 5 = M_12 5 := hgM_24 5 (by decide)
      have hfM_24_9 : M_24 9 = M_12 9 := hgM_24 9 (by decide)
      have hfM_24_10 : M_24 10 = M_12 10 := hgM_24 10 (by decide)
      have hfM_24_11 : M_24 11 = M_12 11 := hgM_24 11 (by decide)
      have hfM_24_12 : M_24 12 = M_12 12 := hgM_24 12 (by decide)
      have := rRk_b hI ((R 19 (h1 * 6 + j)).toNat)
      refine tl_some ?_
      refine lv_istore (lv' := [(9, Value.int (iI (rRk R ((R 19 (h1 * 6 + j)).toNat)))), (8, Value.int (iI (j : Int))), (7, Value.int (iI (rRk R ((R 19 (h1 * 6 + i)).toNat)))), (6, Value.int (iI (oAh R h1 i j))), (5, Value.int (iI (i : Int))), (4, Value.int (iI (255 + (6 * (h1 : Int))))), (3, Value.int (iI (oN R h1 i))), (0, Value.ref (ma 0)), (1, Value.ref fa), (2, Value.int (iI (h1 : Int)))]) hx hb dX10_goSort_71 hl (by decide) rfl (fun ls hl => ?_)
      refine lv_iload hx hb dX10_goSort_73 (lv_at hl 3 rfl) ?_
      refine lv_iload hx hb dX10_goSort_75 (lv_at hl 0 rfl) ?_
      refine lv_iload hx hb dX10_goSort_77 (lv_at hl 2 rfl) ?_
      refine zi_icmp_lt (tgt := 96) hx hb ⟨by omega, by omega⟩ ⟨by omega, by omega⟩ dX10_goSort_79 (by decide) (fun c_25 => ?_) (fun c_25 => ?_)
      · have _ := c_25
        refine lv_iconst (v := iI 1) hx hb dX10_goSort_96 (by decide) ?_
        refine lv_goto (tgt := 101) hx hb dX10_goSort_97 (by decide) ?_
        refine zi_add hx hb dX10_goSort_101 ?_
        refine lv_istore (lv' := [(6, Value.int (iI ((oAh R h1 i j) + 1))), (9, Value.int (iI (rRk R ((R 19 (h1 * 6 + j)).toNat)))), (8, Value.int (iI (j : Int))), (7, Value.int (iI (rRk R ((R 19 (h1 * 6 + i)).toNat)))), (5, Value.int (iI (i : Int))), (4, Value.int (iI (255 + (6 * (h1 : Int))))), (3, Value.int (iI (oN R h1 i))), (0, Value.ref (ma 0)), (1, Value.ref fa), (2, Value.int (iI (h1 : Int)))]) hx hb dX10_goSort_102 hl (by decide) rfl (fun ls hl => ?_)
        refine zi_inc (v := ((j + 1 : Nat) : Int)) (lv' := [(8, Value.int (iI ((j + 1 : Nat) : Int))), (6, Value.int (iI ((oAh R h1 i j) + 1))), (9, Value.int (iI (rRk R ((R 19 (h1 * 6 + j)).toNat)))), (7, Value.int (iI (rRk R ((R 19 (h1 * 6 + i)).toNat)))), (5, Value.int (iI (i : Int))), (4, Value.int (iI (255 + (6 * (h1 : Int))))), (3, Value.int (iI (oN R h1 i))), (0, Value.ref (ma 0)), (1, Value.ref fa), (2, Value.int (iI (h1 : Int)))]) hx hb dX10_goSort_104 hl (k := 2) rfl (by omega) (by decide) rfl (fun ls hl => ?_)
        refine lv_goto (tgt := 47) hx hb dX10_goSort_107 (by decide) ?_
        have hb_26 : (((j + 1) : Nat) : Int) = ((j + 1 : Nat) : Int) := by first | rfl | omega | (simp [c_4, c_14, c_25]; done)
        have hb_27 : oAh R h1 i (j + 1) = (oAh R h1 i j) + 1 := by unfold oAh; first | (rw [cnt_t (decide_eq_true (by omega))]) | (rw [cnt_f (decide_eq_false (by omega))]; omega)
        exact ih_47 hl_j (M_24) (AG_t (hJ_j) hgM_24) _ _ _ hP hD hS (lv_eq (lv_sub hl [0, 3, 1, 4, 5, 6, 7, 8, 9] rfl) (by show [(8, Value.int (iI (((j + 1) : Nat) : Int))), (7, Value.int (iI (rRk R ((R 19 (h1 * 6 + i)).toNat)))), (6, Value.int (iI (oAh R h1 i (j + 1)))), (5, Value.int (iI (i : Int))), (4, Value.int (iI (255 + (6 * (h1 : Int))))), (3, Value.int (iI (oN R h1 i))), (0, Value.ref (ma 0)), (1, Value.ref fa), (2, Value.int (iI (h1 : Int)))] = [(8, Value.int (iI ((j + 1 : Nat) : Int))), (7, Value.int (iI (rRk R ((R 19 (h1 * 6 + i)).toNat)))), (6, Value.int (iI ((oAh R h1 i j) + 1))), (5, Value.int (iI (i : Int))), (4, Value.int (iI (255 + (6 * (h1 : Int))))), (3, Value.int (iI (oN R h1 i))), (0, Value.ref (ma 0)), (1, Value.ref fa), (2, Value.int (iI (h1 : Int)))]; rw [hb_26, hb_27]))
      · have _ := c_25
        refine lv_iload hx hb dX10_goSort_82 (lv_at hl 0 rfl) ?_
        refine lv_iload hx hb dX10_goSort_84 (lv_at hl 2 rfl) ?_
        refine zi_icmp_ne (tgt := 100) hx hb ⟨by omega, by omega⟩ ⟨by omega, by omega⟩ dX10_goSort_86 (by decide) (fun c_28 => ?_) (fun c_28 => ?_)
        · have _ := c_28
          refine lv_iconst (v := iI 0) hx hb dX10_goSort_100 (by decide) ?_
          refine zi_add hx hb dX10_goSort_101 ?_
          refine lv_istore (lv' := [(6, Value.int (iI ((oAh R h1 i j) + 0))), (9, Value.int (iI (rRk R ((R 19 (h1 * 6 + j)).toNat)))), (8, Value.int (iI (j : Int))), (7, Value.int (iI (rRk R ((R 19 (h1 * 6 + i)).toNat)))), (5, Value.int (iI (i : Int))), (4, Value.int (iI (255 + (6 * (h1 : Int))))), (3, Value.int (iI (oN R h1 i))), (0, Value.ref (ma 0)), (1, Value.ref fa), (2, Value.int (iI (h1 : Int)))]) hx hb dX10_goSort_102 hl (by decide) rfl (fun ls hl => ?_)
          refine zi_inc (v := ((j + 1 : Nat) : Int)) (lv' := [(8, Value.int (iI ((j + 1 : Nat) : Int))), (6, Value.int (iI ((oAh R h1 i j) + 0))), (9, Value.int (iI (rRk R ((R 19 (h1 * 6 + j)).toNat)))), (7, Value.int (iI (rRk R ((R 19 (h1 * 6 + i)).toNat)))), (5, Value.int (iI (i : Int))), (4, Value.int (iI (255 + (6 * (h1 : Int))))), (3, Value.int (iI (oN R h1 i))), (0, Value.ref (ma 0)), (1, Value.ref fa), (2, Value.int (iI (h1 : Int)))]) hx hb dX10_goSort_104 hl (k := 2) rfl (by omega) (by decide) rfl (fun ls hl => ?_)
          refine lv_goto (tgt := 47) hx hb dX10_goSort_107 (by decide) ?_
          have hb_29 : (((j + 1) : Nat) : Int) = ((j + 1 : Nat) : Int) := by first | rfl | omega | (simp [c_4, c_14, c_25, c_28]; done)
          have hb_30 : oAh R h1 i (j + 1) = (oAh R h1 i j) + 0 := by unfold oAh; first | (rw [cnt_t (decide_eq_true (by omega))]) | (rw [cnt_f (decide_eq_false (by omega))]; omega)
          exact ih_47 hl_j (M_24) (AG_t (hJ_j) hgM_24) _ _ _ hP hD hS (lv_eq (lv_sub hl [0, 3, 1, 4, 5, 6, 7, 8, 9] rfl) (by show [(8, Value.int (iI (((j + 1) : Nat) : Int))), (7, Value.int (iI (rRk R ((R 19 (h1 * 6 + i)).toNat)))), (6, Value.int (iI (oAh R h1 i (j + 1)))), (5, Value.int (iI (i : Int))), (4, Value.int (iI (255 + (6 * (h1 : Int))))), (3, Value.int (iI (oN R h1 i))), (0, Value.ref (ma 0)), (1, Value.ref fa), (2, Value.int (iI (h1 : Int)))] = [(8, Value.int (iI ((j + 1 : Nat) : Int))), (7, Value.int (iI (rRk R ((R 19 (h1 * 6 + i)).toNat)))), (6, Value.int (iI ((oAh R h1 i j) + 0))), (5, Value.int (iI (i : Int))), (4, Value.int (iI (255 + (6 * (h1 : Int))))), (3, Value.int (iI (oN R h1 i))), (0, Value.ref (ma 0)), (1, Value.ref fa), (2, Value.int (iI (h1 : Int)))]; rw [hb_29, hb_30]))
        · have _ := c_28
          refine lv_iload hx hb dX10_goSort_89 (lv_at hl 1 rfl) ?_
          refine lv_iload hx hb dX10_goSort_91 (lv_at hl 4 rfl) ?_
          refine zi_icmp_ge (tgt := 100) hx hb ⟨by omega, by omega⟩ ⟨by omega, by omega⟩ dX10_goSort_93 (by decide) (fun c_31 => ?_) (fun c_31 => ?_)
          · have _ := c_31
            refine lv_iconst (v := iI 0) hx hb dX10_goSort_100 (by decide) ?_
            refine zi_add hx hb dX10_goSort_101 ?_
            refine lv_istore (lv' := [(6, Value.int (iI ((oAh R h1 i j) + 0))), (9, Value.int (iI (rRk R ((R 19 (h1 * 6 + j)).toNat)))), (8, Value.int (iI (j : Int))), (7, Value.int (iI (rRk R ((R 19 (h1 * 6 + i)).toNat)))), (5, Value.int (iI (i : Int))), (4, Value.int (iI (255 + (6 * (h1 : Int))))), (3, Value.int (iI (oN R h1 i))), (0, Value.ref (ma 0)), (1, Value.ref fa), (2, Value.int (iI (h1 : Int)))]) hx hb dX10_goSort_102 hl (by decide) rfl (fun ls hl => ?_)
            refine zi_inc (v := ((j + 1 : Nat) : Int)) (lv' := [(8, Value.int (iI ((j + 1 : Nat) : Int))), (6, Value.int (iI ((oAh R h1 i j) + 0))), (9, Value.int (iI (rRk R ((R 19 (h1 * 6 + j)).toNat)))), (7, Value.int (iI (rRk R ((R 19 (h1 * 6 + i)).toNat)))), (5, Value.int (iI (i : Int))), (4, Value.int (iI (255 + (6 * (h1 : Int))))), (3, Value.int (iI (oN R h1 i))), (0, Value.ref (ma 0)), (1, Value.ref fa), (2, Value.int (iI (h1 : Int)))]) hx hb dX10_goSort_104 hl (k := 2) rfl (by omega) (by decide) rfl (fun ls hl => ?_)
            refine lv_goto (tgt := 47) hx hb dX10_goSort_107 (by decide) ?_
            have hb_32 : (((j + 1) : Nat) : Int) = ((j + 1 : Nat) : Int) := by first | rfl | omega | (simp [c_4, c_14, c_25, c_28, c_31]; done)
            have hb_33 : oAh R h1 i (j + 1) = (oAh R h1 i j) + 0 := by unfold oAh; first | (rw [cnt_t (decide_eq_true (by omega))]) | (rw [cnt_f (decide_eq_false (by omega))]; omega)
            exact ih_47 hl_j (M_24) (AG_t (hJ_j) hgM_24) _ _ _ hP hD hS (lv_eq (lv_sub hl [0, 3, 1, 4, 5, 6, 7, 8, 9] rfl) (by show [(8, Value.int (iI (((j + 1) : Nat) : Int))), (7, Value.int (iI (rRk R ((R 19 (h1 * 6 + i)).toNat)))), (6, Value.int (iI (oAh R h1 i (j + 1)))), (5, Value.int (iI (i : Int))), (4, Value.int (iI (255 + (6 * (h1 : Int))))), (3, Value.int (iI (oN R h1 i))), (0, Value.ref (ma 0)), (1, Value.ref fa), (2, Value.int (iI (h1 : Int)))] = [(8, Value.int (iI ((j + 1 : Nat) : Int))), (7, Value.int (iI (rRk R ((R 19 (h1 * 6 + i)).toNat)))), (6, Value.int (iI ((oAh R h1 i j) + 0))), (5, Value.int (iI (i : Int))), (4, Value.int (iI (255 + (6 * (h1 : Int))))), (3, Value.int (iI (oN R h1 i))), (0, Value.ref (ma 0)), (1, Value.ref fa), (2, Value.int (iI (h1 : Int)))]; rw [hb_32, hb_33]))
          · have _ := c_31
            refine lv_iconst (v := iI 1) hx hb dX10_goSort_96 (by decide) ?_
            refine lv_goto (tgt := 101) hx hb dX10_goSort_97 (by decide) ?_
            refine zi_add hx hb dX10_goSort_101 ?_
            refine lv_istore (lv' := [(6, Value.int (iI ((oAh R h1 i j) + 1))), (9, Value.int (iI (rRk R ((R 19 (h1 * 6 + j)).toNat)))), (8, Value.int (iI (j : Int))), (7, Value.int (iI (rRk R ((R 19 (h1 * 6 + i)).toNat)))), (5, Value.int (iI (i : Int))), (4, Value.int (iI (255 + (6 * (h1 : Int))))), (3, Value.int (iI (oN R h1 i))), (0, Value.ref (ma 0)), (1, Value.ref fa), (2, Value.int (iI (h1 : Int)))]) hx hb dX10_goSort_102 hl (by decide) rfl (fun ls hl => ?_)
            refine zi_inc (v := ((j + 1 : Nat) : Int)) (lv' := [(8, Value.int (iI ((j + 1 : Nat) : Int))), (6, Value.int (iI ((oAh R h1 i j) + 1))), (9, Value.int (iI (rRk R ((R 19 (h1 * 6 + j)).toNat)))), (7, Value.int (iI (rRk R ((R 19 (h1 * 6 + i)).toNat)))), (5, Value.int (iI (i : Int))), (4, Value.int (iI (255 + (6 * (h1 : Int))))), (3, Value.int (iI (oN R h1 i))), (0, Value.ref (ma 0)), (1, Value.ref fa), (2, Value.int (iI (h1 : Int)))]) hx hb dX10_goSort_104 hl (k := 2) rfl (by omega) (by decide) rfl (fun ls hl => ?_)
            refine lv_goto (tgt := 47) hx hb dX10_goSort_107 (by decide) ?_
            have hb_34 : (((j + 1) : Nat) : Int) = ((j + 1 : Nat) : Int) := by first | rfl | omega | (simp [c_4, c_14, c_25, c_28, c_31]; done)
            have hb_35 : oAh R h1 i (j + 1) = (oAh R h1 i j) + 1 := by unfold oAh; first | (rw [cnt_t (decide_eq_true (by omega))]) | (rw [cnt_f (decide_eq_false (by omega))]; omega)
            exact ih_47 hl_j (M_24) (AG_t (hJ_j) hgM_24) _ _ _ hP hD hS (lv_eq (lv_sub hl [0, 3, 1, 4, 5, 6, 7, 8, 9] rfl) (by show [(8, Value.int (iI (((j + 1) : Nat) : Int))), (7, Value.int (iI (rRk R ((R 19 (h1 * 6 + i)).toNat)))), (6, Value.int (iI (oAh R h1 i (j + 1)))), (5, Value.int (iI (i : Int))), (4, Value.int (iI (255 + (6 * (h1 : Int))))), (3, Value.int (iI (oN R h1 i))), (0, Value.ref (ma 0)), (1, Value.ref fa), (2, Value.int (iI (h1 : Int)))] = [(8, Value.int (iI ((j + 1 : Nat) : Int))), (7, Value.int (iI (rRk R ((R 19 (h1 * 6 + i)).toNat)))), (6, Value.int (iI ((oAh R h1 i j) + 1))), (5, Value.int (iI (i : Int))), (4, Value.int (iI (255 + (6 * (h1 : Int))))), (3, Value.int (iI (oN R h1 i))), (0, Value.ref (ma 0)), (1, Value.ref fa), (2, Value.int (iI (h1 : Int)))]; rw [hb_34, hb_35]))
