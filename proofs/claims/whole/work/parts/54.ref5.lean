def rCs (R : Nat → Nat → Int) (t h : Nat) : Nat → Bool
  | 0 => decide (rOth R t h < 6)
  | k + 1 => rCs R t h k && decide (R 19 (h * 6 + k) = (t : Int) ∨ R 5 (R 11 (R 19 (h * 6 + k)).toNat).toNat = R 5 (R 11 t).toNat)
theorem rOth_b {R : Nat → Nat → Int} (hI : SI R) (z : Int) {h : Nat} (hh : h < 6) : -1 ≤ rOth R z h ∧ rOth R z h ≤ 6 := by
  have := hI.hN h hh
  unfold rOth
  split <;> omega

theorem cd_X10_canShelve : cd yX10_canShelve 3 := by decide +kernel
set_option maxHeartbeats 1000000 in
set_option maxRecDepth 100000 in
theorem c_X10_canShelve (l : Launch) (g : va_G) (τ : Nat → ClassId) (fa : Nat) (R : Nat → Nat → Int) (hI : SI R) (s1 : Nat) (hs : (s1 : Int) < R 10 0) (h1 : Nat) (hh : h1 < 6)  : Met l yX10_canShelve wsX10_canShelve { frames := 3, cells := 0, slots := 0, locals := 69 } (va_Pc [Value.ref fa, Value.int (iI (s1 : Int)), Value.int (iI (h1 : Int))] (roW g τ (flW fa R τ))) (roQ (some (Value.int (iI (zB (rCs R s1 h1 (R 18 h1).toNat)))))) 0 0 nof := by
  have hB := hI.hB
  have hr0 := hI.r
  have hd0 := hI.d
  have hs0 := hI.s
  have hsl := hI.sl s1 hs
  have hdl := hI.ds (R 11 s1).toNat (by omega)
  have hN := hI.hN h1 hh
  refine roMet (cc := cX10_canShelve) (maxL := 6) (ret := (some .boolean)) (lv := [(0, Value.ref fa), (1, Value.int (iI (s1 : Int))), (2, Value.int (iI (h1 : Int)))]) (by decide) rfl (Nat.le_of_ble_eq_true rfl) rfl ?_
  intro p e s m below meth c hx hb hr hml hts hown hlocks hP hK ls hl
  refine jn (F0 m 16 ls (Value.int (iI (zB (decide (rOth R s1 h1 < 6)))) :: [])) ?_ (fun K => ?_)
  · skip
    refine lv_istore_n (lv' := [(3, Value.int (iI (zB (decide (rOth R s1 h1 < 6))))), (0, Value.ref fa), (1, Value.int (iI (s1 : Int))), (2, Value.int (iI (h1 : Int)))]) hx hb dX10_canShelve_16 rfl hl (by decide) rfl (fun ls hl => ?_)
    refine lv_iconst (v := iI 0) hx hb dX10_canShelve_17 (by decide) ?_
    refine lv_istore (lv' := [(4, Value.int (iI 0)), (3, Value.int (iI (zB (decide (rOth R s1 h1 < 6))))), (0, Value.ref fa), (1, Value.int (iI (s1 : Int))), (2, Value.int (iI (h1 : Int)))]) hx hb dX10_canShelve_18 hl (by decide) rfl (fun ls hl => ?_)
    have h0_1 : zB (rCs R s1 h1 0) = zB (decide (rOth R s1 h1 < 6)) := rfl
    refine lp_up (fun i => [(4, Value.int (iI (i : Int))), (3, Value.int (iI (zB (rCs R s1 h1 i)))), (0, Value.ref fa), (1, Value.int (iI (s1 : Int))), (2, Value.int (iI (h1 : Int)))]) (fun i => True) ((R 18 h1).toNat) (0) (by omega) (by first | trivial | (intro j hj; omega)) (lv_eq (lv_sub hl [0, 1, 2, 3, 4] rfl) (by show [(4, Value.int (iI 0)), (3, Value.int (iI (zB (rCs R s1 h1 0)))), (0, Value.ref fa), (1, Value.int (iI (s1 : Int))), (2, Value.int (iI (h1 : Int)))] = [(4, Value.int (iI 0)), (3, Value.int (iI (zB (decide (rOth R s1 h1 < 6))))), (0, Value.ref fa), (1, Value.int (iI (s1 : Int))), (2, Value.int (iI (h1 : Int)))]; rw [h0_1])) (fun i h0_i hi_i hI_i ih_20 ls hl => ?_)
    refine lv_iload hx hb dX10_canShelve_20 (lv_at hl 0 rfl) ?_
    refine lv_aload_n hx hb dX10_canShelve_22 rfl (lv_at hl 2 rfl) ?_
    refine lv_sipush (v := iI 249) hx hb dX10_canShelve_23 (by decide) ?_
    refine lv_iload_n hx hb dX10_canShelve_26 rfl (lv_at hl 4 rfl) ?_
    refine zi_add hx hb dX10_canShelve_27 ?_
    refine zf_ald hx hb hK hP 0 (f := flR R) rfl (249 + h1) (by omega) (by omega) (by decide) (z := R 18 h1) (fl_18 (i := h1) (by omega) (by omega)) dX10_canShelve_28 ?_
    have hb_2 := hB 18 h1
    refine zi_icmp_ge (tgt := 95) hx hb ⟨by omega, by omega⟩ ⟨by omega, by omega⟩ dX10_canShelve_29 (by decide) (fun c_3 => ?_) (fun c_3 => ?_)
    · have _ := c_3
      have h0_i : i = (R 18 h1).toNat := by omega
      refine lv_iload_n hx hb dX10_canShelve_95 rfl (lv_at hl 1 rfl) ?_
      exact zo_zret hx hb hr hlocks (by rw [h0_i]) dX10_canShelve_96
    · have _ := c_3
      have hl_i : i < (R 18 h1).toNat := by omega
      have hon := hI.on h1 i hh (by omega)
      have hsi := hI.sl (R 19 (h1 * 6 + i)).toNat (by omega)
      have hdi := hI.ds (R 11 (R 19 (h1 * 6 + i)).toNat).toNat (by omega)
      refine lv_aload_n hx hb dX10_canShelve_32 rfl (lv_at hl 2 rfl) ?_
      refine lv_sipush (v := iI 255) hx hb dX10_canShelve_33 (by decide) ?_
      refine lv_bipush (v := iI 6) hx hb dX10_canShelve_36 (by decide) ?_
      refine lv_iload_n hx hb dX10_canShelve_38 rfl (lv_at hl 4 rfl) ?_
      refine zi_mul hx hb dX10_canShelve_39 ?_
      refine zi_add hx hb dX10_canShelve_40 ?_
      refine lv_iload hx hb dX10_canShelve_41 (lv_at hl 0 rfl) ?_
      refine zi_add hx hb dX10_canShelve_43 ?_
      refine zf_ald hx hb hK hP 0 (f := flR R) rfl ((255 + (6 * h1)) + i) (by omega) (by omega) (by decide) (z := R 19 (h1 * 6 + i)) (fl_19 (i := h1 * 6 + i) (by omega) (by omega)) dX10_canShelve_44 ?_
      have hb_4 := hB 19 (h1 * 6 + i)
      refine cv_i (y := iI (((R 19 (h1 * 6 + i)).toNat : Nat) : Int)) (congrArg iI (by omega)) ?_
      refine lv_istore (lv' := [(5, Value.int (iI (((R 19 (h1 * 6 + i)).toNat : Nat) : Int))), (4, Value.int (iI (i : Int))), (3, Value.int (iI (zB (rCs R s1 h1 i)))), (0, Value.ref fa), (1, Value.int (iI (s1 : Int))), (2, Value.int (iI (h1 : Int)))]) hx hb dX10_canShelve_45 hl (by decide) rfl (fun ls hl => ?_)
      refine lv_iload_n hx hb dX10_canShelve_47 rfl (lv_at hl 2 rfl) ?_
      refine zb_if_eq (tgt := 87) hx hb dX10_canShelve_48 (by decide) (fun c_5 => ?_) (fun c_5 => ?_)
      · have _ := c_5
        refine lv_iconst (v := iI 0) hx hb dX10_canShelve_87 (by decide) ?_
        refine lv_istore_n (lv' := [(3, Value.int (iI 0)), (5, Value.int (iI (((R 19 (h1 * 6 + i)).toNat : Nat) : Int))), (4, Value.int (iI (i : Int))), (0, Value.ref fa), (1, Value.int (iI (s1 : Int))), (2, Value.int (iI (h1 : Int)))]) hx hb dX10_canShelve_88 rfl hl (by decide) rfl (fun ls hl => ?_)
        refine zi_inc (v := ((i + 1 : Nat) : Int)) (lv' := [(4, Value.int (iI ((i + 1 : Nat) : Int))), (3, Value.int (iI 0)), (5, Value.int (iI (((R 19 (h1 * 6 + i)).toNat : Nat) : Int))), (0, Value.ref fa), (1, Value.int (iI (s1 : Int))), (2, Value.int (iI (h1 : Int)))]) hx hb dX10_canShelve_89 hl (k := 2) rfl (by omega) (by decide) rfl (fun ls hl => ?_)
        refine lv_goto (tgt := 20) hx hb dX10_canShelve_92 (by decide) ?_
        have hb_6 : (((i + 1) : Nat) : Int) = ((i + 1 : Nat) : Int) := by first | rfl | omega | (simp [c_3, c_5]; done)
        have hb_7 : zB (rCs R s1 h1 (i + 1)) = 0 := by rw [rCs]; first | (rw [show rCs R s1 h1 i = false from by assumption]; rfl) | (rw [show rCs R s1 h1 i = true from by assumption]; first | (rw [decide_eq_true (by omega)]; rfl) | (rw [decide_eq_false (by omega)]; rfl))
        exact ih_20 hl_i (trivial) _ (lv_eq (lv_sub hl [0, 1, 3, 4, 5] rfl) (by show [(4, Value.int (iI (((i + 1) : Nat) : Int))), (3, Value.int (iI (zB (rCs R s1 h1 (i + 1))))), (0, Value.ref fa), (1, Value.int (iI (s1 : Int))), (2, Value.int (iI (h1 : Int)))] = [(4, Value.int (iI ((i + 1 : Nat) : Int))), (3, Value.int (iI 0)), (0, Value.ref fa), (1, Value.int (iI (s1 : Int))), (2, Value.int (iI (h1 : Int)))]; rw [hb_6, hb_7]))
      · have _ := c_5
        refine lv_iload hx hb dX10_canShelve_51 (lv_at hl 0 rfl) ?_
        refine lv_iload_n hx hb dX10_canShelve_53 rfl (lv_at hl 4 rfl) ?_
        refine zi_icmp_eq (tgt := 83) hx hb ⟨by omega, by omega⟩ ⟨by omega, by omega⟩ dX10_canShelve_54 (by decide) (fun c_8 => ?_) (fun c_8 => ?_)
        · have _ := c_8
          refine lv_iconst (v := iI 1) hx hb dX10_canShelve_83 (by decide) ?_
          refine lv_goto (tgt := 88) hx hb dX10_canShelve_84 (by decide) ?_
          refine lv_istore_n (lv' := [(3, Value.int (iI 1)), (5, Value.int (iI (((R 19 (h1 * 6 + i)).toNat : Nat) : Int))), (4, Value.int (iI (i : Int))), (0, Value.ref fa), (1, Value.int (iI (s1 : Int))), (2, Value.int (iI (h1 : Int)))]) hx hb dX10_canShelve_88 rfl hl (by decide) rfl (fun ls hl => ?_)
          refine zi_inc (v := ((i + 1 : Nat) : Int)) (lv' := [(4, Value.int (iI ((i + 1 : Nat) : Int))), (3, Value.int (iI 1)), (5, Value.int (iI (((R 19 (h1 * 6 + i)).toNat : Nat) : Int))), (0, Value.ref fa), (1, Value.int (iI (s1 : Int))), (2, Value.int (iI (h1 : Int)))]) hx hb dX10_canShelve_89 hl (k := 2) rfl (by omega) (by decide) rfl (fun ls hl => ?_)
          refine lv_goto (tgt := 20) hx hb dX10_canShelve_92 (by decide) ?_
          have hb_9 : (((i + 1) : Nat) : Int) = ((i + 1 : Nat) : Int) := by first | rfl | omega | (simp [c_3, c_5, c_8]; done)
          have hb_10 : zB (rCs R s1 h1 (i + 1)) = 1 := by rw [rCs]; first | (rw [show rCs R s1 h1 i = false from by assumption]; rfl) | (rw [show rCs R s1 h1 i = true from by assumption]; first | (rw [decide_eq_true (by omega)]; rfl) | (rw [decide_eq_false (by omega)]; rfl))
          exact ih_20 hl_i (trivial) _ (lv_eq (lv_sub hl [0, 1, 3, 4, 5] rfl) (by show [(4, Value.int (iI (((i + 1) : Nat) : Int))), (3, Value.int (iI (zB (rCs R s1 h1 (i + 1))))), (0, Value.ref fa), (1, Value.int (iI (s1 : Int))), (2, Value.int (iI (h1 : Int)))] = [(4, Value.int (iI ((i + 1 : Nat) : Int))), (3, Value.int (iI 1)), (0, Value.ref fa), (1, Value.int (iI (s1 : Int))), (2, Value.int (iI (h1 : Int)))]; rw [hb_9, hb_10]))
        · have _ := c_8
          refine lv_aload_n hx hb dX10_canShelve_57 rfl (lv_at hl 3 rfl) ?_
          refine lv_bipush (v := iI 25) hx hb dX10_canShelve_58 (by decide) ?_
          refine lv_aload_n hx hb dX10_canShelve_60 rfl (lv_at hl 3 rfl) ?_
          refine lv_bipush (v := iI 105) hx hb dX10_canShelve_61 (by decide) ?_
          refine lv_iload hx hb dX10_canShelve_63 (lv_at hl 0 rfl) ?_
          refine zi_add hx hb dX10_canShelve_65 ?_
          refine zf_ald hx hb hK hP 0 (f := flR R) rfl (105 + ((R 19 (h1 * 6 + i)).toNat)) (by omega) (by omega) (by decide) (z := R 11 ((R 19 (h1 * 6 + i)).toNat)) (fl_11 (i := (R 19 (h1 * 6 + i)).toNat) (by omega) (by omega)) dX10_canShelve_66 ?_
          have hb_11 := hB 11 ((R 19 (h1 * 6 + i)).toNat)
          refine cv_i (y := iI (((R 11 (R 19 (h1 * 6 + i)).toNat).toNat : Nat) : Int)) (congrArg iI (by omega)) ?_
          refine zi_add hx hb dX10_canShelve_67 ?_
          refine zf_ald hx hb hK hP 0 (f := flR R) rfl (25 + ((R 11 (R 19 (h1 * 6 + i)).toNat).toNat)) (by omega) (by omega) (by decide) (z := R 5 ((R 11 (R 19 (h1 * 6 + i)).toNat).toNat)) (fl_5 (i := (R 11 (R 19 (h1 * 6 + i)).toNat).toNat) (by omega) (by omega)) dX10_canShelve_68 ?_
          have hb_12 := hB 5 ((R 11 (R 19 (h1 * 6 + i)).toNat).toNat)
          refine lv_aload_n hx hb dX10_canShelve_69 rfl (lv_at hl 3 rfl) ?_
          refine lv_bipush (v := iI 25) hx hb dX10_canShelve_70 (by decide) ?_
          refine lv_aload_n hx hb dX10_canShelve_72 rfl (lv_at hl 3 rfl) ?_
          refine lv_bipush (v := iI 105) hx hb dX10_canShelve_73 (by decide) ?_
          refine lv_iload_n hx hb dX10_canShelve_75 rfl (lv_at hl 4 rfl) ?_
          refine zi_add hx hb dX10_canShelve_76 ?_
          refine zf_ald hx hb hK hP 0 (f := flR R) rfl (105 + s1) (by omega) (by omega) (by decide) (z := R 11 s1) (fl_11 (i := s1) (by omega) (by omega)) dX10_canShelve_77 ?_
          have hb_13 := hB 11 s1
          refine cv_i (y := iI (((R 11 s1).toNat : Nat) : Int)) (congrArg iI (by omega)) ?_
          refine zi_add hx hb dX10_canShelve_78 ?_
          refine zf_ald hx hb hK hP 0 (f := flR R) rfl (25 + ((R 11 s1).toNat)) (by omega) (by omega) (by decide) (z := R 5 ((R 11 s1).toNat)) (fl_5 (i := (R 11 s1).toNat) (by omega) (by omega)) dX10_canShelve_79 ?_
          have hb_14 := hB 5 ((R 11 s1).toNat)
          refine zi_icmp_ne (tgt := 87) hx hb ⟨by omega, by omega⟩ ⟨by omega, by omega⟩ dX10_canShelve_80 (by decide) (fun c_15 => ?_) (fun c_15 => ?_)
          · have _ := c_15
            refine lv_iconst (v := iI 0) hx hb dX10_canShelve_87 (by decide) ?_
            refine lv_istore_n (lv' := [(3, Value.int (iI 0)), (5, Value.int (iI (((R 19 (h1 * 6 + i)).toNat : Nat) : Int))), (4, Value.int (iI (i : Int))), (0, Value.ref fa), (1, Value.int (iI (s1 : Int))), (2, Value.int (iI (h1 : Int)))]) hx hb dX10_canShelve_88 rfl hl (by decide) rfl (fun ls hl => ?_)
            refine zi_inc (v := ((i + 1 : Nat) : Int)) (lv' := [(4, Value.int (iI ((i + 1 : Nat) : Int))), (3, Value.int (iI 0)), (5, Value.int (iI (((R 19 (h1 * 6 + i)).toNat : Nat) : Int))), (0, Value.ref fa), (1, Value.int (iI (s1 : Int))), (2, Value.int (iI (h1 : Int)))]) hx hb dX10_canShelve_89 hl (k := 2) rfl (by omega) (by decide) rfl (fun ls hl => ?_)
            refine lv_goto (tgt := 20) hx hb dX10_canShelve_92 (by decide) ?_
            have hb_16 : (((i + 1) : Nat) : Int) = ((i + 1 : Nat) : Int) := by first | rfl | omega | (simp [c_3, c_5, c_8, c_15]; done)
            have hb_17 : zB (rCs R s1 h1 (i + 1)) = 0 := by rw [rCs]; first | (rw [show rCs R s1 h1 i = false from by assumption]; rfl) | (rw [show rCs R s1 h1 i = true from by assumption]; first | (rw [decide_eq_true (by omega)]; rfl) | (rw [decide_eq_false (by omega)]; rfl))
            exact ih_20 hl_i (trivial) _ (lv_eq (lv_sub hl [0, 1, 3, 4, 5] rfl) (by show [(4, Value.int (iI (((i + 1) : Nat) : Int))), (3, Value.int (iI (zB (rCs R s1 h1 (i + 1))))), (0, Value.ref fa), (1, Value.int (iI (s1 : Int))), (2, Value.int (iI (h1 : Int)))] = [(4, Value.int (iI ((i + 1 : Nat) : Int))), (3, Value.int (iI 0)), (0, Value.ref fa), (1, Value.int (iI (s1 : Int))), (2, Value.int (iI (h1 : Int)))]; rw [hb_16, hb_17]))
          · have _ := c_15
            refine lv_iconst (v := iI 1) hx hb dX10_canShelve_83 (by decide) ?_
            refine lv_goto (tgt := 88) hx hb dX10_canShelve_84 (by decide) ?_
            refine lv_istore_n (lv' := [(3, Value.int (iI 1)), (5, Value.int (iI (((R 19 (h1 * 6 + i)).toNat : Nat) : Int))), (4, Value.int (iI (i : Int))), (0, Value.ref fa), (1, Value.int (iI (s1 : Int))), (2, Value.int (iI (h1 : Int)))]) hx hb dX10_canShelve_88 rfl hl (by decide) rfl (fun ls hl => ?_)
            refine zi_inc (v := ((i + 1 : Nat) : Int)) (lv' := [(4, Value.int (iI ((i + 1 : Nat) : Int))), (3, Value.int (iI 1)), (5, Value.int (iI (((R 19 (h1 * 6 + i)).toNat : Nat) : Int))), (0, Value.ref fa), (1, Value.int (iI (s1 : Int))), (2, Value.int (iI (h1 : Int)))]) hx hb dX10_canShelve_89 hl (k := 2) rfl (by omega) (by decide) rfl (fun ls hl => ?_)
            refine lv_goto (tgt := 20) hx hb dX10_canShelve_92 (by decide) ?_
            have hb_18 : (((i + 1) : Nat) : Int) = ((i + 1 : Nat) : Int) := by first | rfl | omega | (simp [c_3, c_5, c_8, c_15]; done)
            have hb_19 : zB (rCs R s1 h1 (i + 1)) = 1 := by rw [rCs]; first | (rw [show rCs R s1 h1 i = false from by assumption]; rfl) | (rw [show rCs R s1 h1 i = true from by assumption]; first | (rw [decide_eq_true (by omega)]; rfl) | (rw [decide_eq_false (by omega)]; rfl))
            exact ih_20 hl_i (trivial) _ (lv_eq (lv_sub hl [0, 1, 3, 4, 5] rfl) (by show [(4, Value.int (iI (((i + 1) : Nat) : Int))), (3, Value.int (iI (zB (rCs R s1 h1 (i + 1))))), (0, Value.ref fa), (1, Value.int (iI (s1 : Int))), (2, Value.int (iI (h1 : Int)))] = [(4, Value.int (iI ((i + 1 : Nat) : Int))), (3, Value.int (iI 1)), (0, Value.ref fa), (1, Value.int (iI (s1 : Int))), (2, Value.int (iI (h1 : Int)))]; rw [hb_18, hb_19]))
  · skip
    refine lv_aload_n hx hb dX10_canShelve_0 rfl (lv_at hl 0 rfl) ?_
    refine lv_iload_n hx hb dX10_canShelve_1 rfl (lv_at hl 1 rfl) ?_
    refine lv_iload_n hx hb dX10_canShelve_2 rfl (lv_at hl 2 rfl) ?_
    refine ro_S (As := [Value.ref fa, Value.int (iI (s1 : Int)), Value.int (iI (h1 : Int))]) (rest := []) (v := some (Value.int (iI (rOth R (s1 : Int) h1)))) ⟨hx, hb, hml, hown, hts⟩ (c_X10_others l g τ fa R hI (s1 : Int) ⟨by omega, by omega⟩ h1 (by omega)) gX10_canShelve_X10_others cd_X10_others rfl ⟨rfl, rfl⟩ ⟨Nat.le_of_ble_eq_true rfl, Nat.le_of_ble_eq_true rfl⟩ hK hP rfl hl rfl (Nat.le_of_ble_eq_true rfl) dX10_canShelve_3 ⟨Nat.le_of_ble_eq_true rfl, Nat.le_of_ble_eq_true rfl⟩ ?_
    refine tl_some ?_
    have hob := rOth_b hI (s1 : Int) (h := h1) (by omega)
    refine lv_bipush (v := iI 6) hx hb dX10_canShelve_6 (by decide) ?_
    refine zi_icmp_ge (tgt := 15) hx hb ⟨by omega, by omega⟩ ⟨by decide, by decide⟩ dX10_canShelve_8 (by decide) (fun c_20 => ?_) (fun c_20 => ?_)
    · have _ := c_20
      refine lv_iconst (v := iI 0) hx hb dX10_canShelve_15 (by decide) ?_
      exact cv_i (congrArg iI (Eq.symm (show (zB (decide (rOth R s1 h1 < 6))) = 0 from by first | (rw [decide_eq_true (by omega)]; rfl) | (rw [decide_eq_false (by omega)]; rfl)))) K
    · have _ := c_20
      refine lv_iconst (v := iI 1) hx hb dX10_canShelve_11 (by decide) ?_
      refine lv_goto (tgt := 16) hx hb dX10_canShelve_12 (by decide) ?_
      exact cv_i (congrArg iI (Eq.symm (show (zB (decide (rOth R s1 h1 < 6))) = 1 from by first | (rw [decide_eq_true (by omega)]; rfl) | (rw [decide_eq_false (by omega)]; rfl)))) K
