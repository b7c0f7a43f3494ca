theorem cd_X5_at : cd yX5_at 2 := by decide +kernel
theorem in_X5_at_X5 : ∀ w ∈ wsX50, w ∈ wsX5_at := by decide +kernel
set_option maxHeartbeats 4000000 in
set_option maxRecDepth 100000 in
theorem c_X5_at (l : Launch) (g : va_G) (τ : Nat → ClassId) (ad : Nat → Nat) (R : Nat → Nat → Int) (h k : Nat) (hh : h < 6) (hk : k < 6) : Met l yX5_at wsX5_at { frames := 0, cells := 0, slots := 0, locals := 0 } (va_Pc [Value.ref (ad 17), Value.int (iI (h : Int)), Value.int (iI (k : Int))] (roW g τ (shW ad R τ))) (roQ (some (Value.int (iI (R 19 (h * 6 + k)))))) 0 0 nof := by
  refine roMet (cc := cX5_at) (maxL := 3) (ret := (some .int)) (lv := [(0, Value.ref (ad 17)), (1, Value.int (iI (h : Int))), (2, Value.int (iI (k : Int)))]) (by decide) rfl (Nat.le_of_ble_eq_true rfl) rfl ?_
  intro p e s m below meth c hx hb hr hml hts hown hlocks hP hK ls hl
  refine lv_aload_n hx hb dX5_at_0 rfl (lv_at hl 0 rfl) ?_
  refine va_get (D := g) (ci := 5) (v := Value.ref (ad 19)) (C := RX5) (T := TX5) (N := 2) hx hb hts in_X5_at_X5 hown hK.1 hP 0 (rfl) rfl 1 (by decide) (hts _ (List.mem_of_getElem? (i := 1) rfl) : (Cond.fieldLink RX5 15 "CordSeals$Shelves" "seals" "[I").before _ s = true) (fun _ h9 => h9) rfl dX5_at_1 ?_
  refine lv_iload_n hx hb dX5_at_4 rfl (lv_at hl 1 rfl) ?_
  refine lv_bipush (v := iI 6) hx hb dX5_at_5 (by decide) ?_
  refine zi_mul hx hb dX5_at_7 ?_
  refine lv_iload_n hx hb dX5_at_8 rfl (lv_at hl 2 rfl) ?_
  refine zi_add hx hb dX5_at_9 ?_
  refine zi_ald hx hb hK hP 2 (f := (R 19)) (rfl) ((h * 6) + k) (by omega) (by omega) (by decide) dX5_at_10 ?_
  exact zo_iret hx hb hr hlocks (rfl) dX5_at_11

theorem cd_X5_filled : cd yX5_filled 0 := by decide +kernel
theorem in_X5_filled_X5 : ∀ w ∈ wsX50, w ∈ wsX5_filled := by decide +kernel
set_option maxHeartbeats 4000000 in
set_option maxRecDepth 100000 in
theorem c_X5_filled (l : Launch) (g : va_G) (τ : Nat → ClassId) (ad : Nat → Nat) (R : Nat → Nat → Int) (hB : ∀ k j, -1 ≤ R k j ∧ R k j < 65536) (hN : ∀ h, h < 6 → 0 ≤ R 18 h ∧ R 18 h ≤ 6)  : Met l yX5_filled wsX5_filled { frames := 0, cells := 0, slots := 0, locals := 0 } (va_Pc [Value.ref (ad 17)] (roW g τ (shW ad R τ))) (roQ (some (Value.int (iI (sumZ (R 18) 6))))) 0 0 nof := by
  refine roMet (cc := cX5_filled) (maxL := 3) (ret := (some .int)) (lv := [(0, Value.ref (ad 17))]) (by decide) rfl (Nat.le_of_ble_eq_true rfl) rfl ?_
  intro p e s m below meth c hx hb hr hml hts hown hlocks hP hK ls hl
  refine lv_iconst (v := iI 0) hx hb dX5_filled_0 (by decide) ?_
  refine lv_istore_n (lv' := [(1, Value.int (iI 0)), (0, Value.ref (ad 17))]) hx hb dX5_filled_1 rfl hl (by decide) rfl (fun ls hl => ?_)
  refine lv_iconst (v := iI 0) hx hb dX5_filled_2 (by decide) ?_
  refine lv_istore_n (lv' := [(2, Value.int (iI 0)), (1, Value.int (iI 0)), (0, Value.ref (ad 17))]) hx hb dX5_filled_3 rfl hl (by decide) rfl (fun ls hl => ?_)
  have h0_1 : sumZ (R 18) 0 = 0 := by first | rfl | omega | (simp [sumZ]; done)
  refine lp_up (fun i => [(2, Value.int (iI (i : Int))), (1, Value.int (iI (sumZ (R 18) i))), (0, Value.ref (ad 17))]) (fun i => True) (6) (0) (by omega) (by first | trivial | (intro j hj; omega)) (lv_eq (lv_sub hl [0, 1, 2] rfl) (by show [(2, Value.int (iI 0)), (1, Value.int (iI (sumZ (R 18) 0))), (0, Value.ref (ad 17))] = [(2, Value.int (iI 0)), (1, Value.int (iI 0)), (0, Value.ref (ad 17))]; rw [h0_1])) (fun i h0_i hi_i hI_i ih_4 ls hl => ?_)
  refine lv_iload_n hx hb dX5_filled_4 rfl (lv_at hl 0 rfl) ?_
  refine lv_bipush (v := iI 6) hx hb dX5_filled_5 (by decide) ?_
  refine zi_icmp_ge (tgt := 25) hx hb ⟨by omega, by omega⟩ ⟨by decide, by decide⟩ dX5_filled_7 (by decide) (fun c_2 => ?_) (fun c_2 => ?_)
  · have _ := c_2
    have h0_i : i = 6 := by omega
    refine lv_iload_n hx hb dX5_filled_25 rfl (lv_at hl 1 rfl) ?_
    exact zo_iret hx hb hr hlocks (by rw [h0_i]) dX5_filled_26
  · have _ := c_2
    have hl_i : i < 6 := by omega
    refine lv_iload_n hx hb dX5_filled_10 rfl (lv_at hl 1 rfl) ?_
    refine lv_aload_n hx hb dX5_filled_11 rfl (lv_at hl 2 rfl) ?_
    refine va_get (D := g) (ci := 5) (v := Value.ref (ad 18)) (C := RX5) (T := TX5) (N := 2) hx hb hts in_X5_filled_X5 hown hK.1 hP 0 (rfl) rfl 0 (by decide) (hts _ (List.mem_of_getElem? (i := 1) rfl) : (Cond.fieldLink RX5 9 "CordSeals$Shelves" "count" "[I").before _ s = true) (fun _ h9 => h9) rfl dX5_filled_12 ?_
    refine lv_iload_n hx hb dX5_filled_15 rfl (lv_at hl 0 rfl) ?_
    refine zi_ald hx hb hK hP 1 (f := (R 18)) (rfl) (i) (rfl) (by omega) (by decide) dX5_filled_16 ?_
    have hb_3 := hB 18 i
    refine zi_add hx hb dX5_filled_17 ?_
    refine lv_istore_n (lv' := [(1, Value.int (iI ((sumZ (R 18) i) + (R 18 i)))), (2, Value.int (iI (i : Int))), (0, Value.ref (ad 17))]) hx hb dX5_filled_18 rfl hl (by decide) rfl (fun ls hl => ?_)
    refine zi_inc (v := ((i + 1 : Nat) : Int)) (lv' := [(2, Value.int (iI ((i + 1 : Nat) : Int))), (1, Value.int (iI ((sumZ (R 18) i) + (R 18 i)))), (0, Value.ref (ad 17))]) hx hb dX5_filled_19 hl (k := 1) rfl (by omega) (by decide) rfl (fun ls hl => ?_)
    refine lv_goto (tgt := 4) hx hb dX5_filled_22 (by decide) ?_
    have hb_4 : (((i + 1) : Nat) : Int) = ((i + 1 : Nat) : Int) := by first | rfl | omega | (simp [sumZ, c_2]; done)
    have hb_5 : sumZ (R 18) (i + 1) = (sumZ (R 18) i) + (R 18 i) := by first | rfl | omega | (simp [sumZ, c_2]; done)
    exact ih_4 hl_i (trivial) _ (lv_eq (lv_sub hl [0, 1, 2] rfl) (by show [(2, Value.int (iI (((i + 1) : Nat) : Int))), (1, Value.int (iI (sumZ (R 18) (i + 1)))), (0, Value.ref (ad 17))] = [(2, Value.int (iI ((i + 1 : Nat) : Int))), (1, Value.int (iI ((sumZ (R 18) i) + (R 18 i)))), (0, Value.ref (ad 17))]; rw [hb_4, hb_5]))

theorem cd_X5_placeOn : cd yX5_placeOn 2 := by decide +kernel
theorem in_X5_placeOn_X5 : ∀ w ∈ wsX50, w ∈ wsX5_placeOn := by decide +kernel
set_option maxHeartbeats 4000000 in
set_option maxRecDepth 100000 in
theorem c_X5_placeOn (l : Launch) (g : va_G) (τ : Nat → ClassId) (ad : Nat → Nat) (R : Nat → Nat → Int) (hB : ∀ k j, -1 ≤ R k j ∧ R k j < 65536) (hN : ∀ h, h < 6 → 0 ≤ R 18 h ∧ R 18 h ≤ 6) (h : Nat) (hh : h < 6) (z : Int) (rz : -2147483648 ≤ z ∧ z < 2147483648)  : Met l yX5_placeOn wsX5_placeOn { frames := 1, cells := 0, slots := 0, locals := 22 } (va_Pc [Value.ref (ad 17), Value.int (iI (h : Int)), Value.int (iI z)] (roW g τ (shW ad R τ))) (roQ (some (Value.int (iI (plI (shN R h) (pOn R h z)))))) 0 0 nof := by
  have hm := hN h hh
  have hs : shN R h = (R 18 h).toNat := rfl
  refine roMet (cc := cX5_placeOn) (maxL := 4) (ret := (some .int)) (lv := [(0, Value.ref (ad 17)), (1, Value.int (iI (h : Int))), (2, Value.int (iI z))]) (by decide) rfl (Nat.le_of_ble_eq_true rfl) rfl ?_
  intro p e s m below meth c hx hb hr hml hts hown hlocks hP hK ls hl
  refine lv_iconst (v := iI 0) hx hb dX5_placeOn_0 (by decide) ?_
  refine lv_istore_n (lv' := [(3, Value.int (iI 0)), (0, Value.ref (ad 17)), (1, Value.int (iI (h : Int))), (2, Value.int (iI z))]) hx hb dX5_placeOn_1 rfl hl (by decide) rfl (fun ls hl => ?_)
  refine lp_up (fun i => [(3, Value.int (iI (i : Int))), (0, Value.ref (ad 17)), (1, Value.int (iI (h : Int))), (2, Value.int (iI z))]) (fun i => ∀ j, j < i → onS R h z j = false) (shN R h) (0) (by omega) (by first | trivial | (intro j hj; omega)) (lv_eq (lv_sub hl [0, 1, 2, 3] rfl) (by show [(3, Value.int (iI 0)), (0, Value.ref (ad 17)), (1, Value.int (iI (h : Int))), (2, Value.int (iI z))] = [(3, Value.int (iI 0)), (0, Value.ref (ad 17)), (1, Value.int (iI (h : Int))), (2, Value.int (iI z))]; rfl)) (fun i h0_i hi_i hI_i ih_2 ls hl => ?_)
  refine lv_iload_n hx hb dX5_placeOn_2 rfl (lv_at hl 0 rfl) ?_
  refine lv_aload_n hx hb dX5_placeOn_3 rfl (lv_at hl 1 rfl) ?_
  refine va_get (D := g) (ci := 5) (v := Value.ref (ad 18)) (C := RX5) (T := TX5) (N := 2) hx hb hts in_X5_placeOn_X5 hown hK.1 hP 0 (rfl) rfl 0 (by decide) (hts _ (List.mem_of_getElem? (i := 1) rfl) : (Cond.fieldLink RX5 9 "CordSeals$Shelves" "count" "[I").before _ s = true) (fun _ h9 => h9) rfl dX5_placeOn_4 ?_
  refine lv_iload_n hx hb dX5_placeOn_7 rfl (lv_at hl 2 rfl) ?_
  refine zi_ald hx hb hK hP 1 (f := (R 18)) (rfl) (h) (rfl) (by omega) (by decide) dX5_placeOn_8 ?_
  have hb_1 := hB 18 h
  refine zi_icmp_ge (tgt := 30) hx hb ⟨by omega, by omega⟩ ⟨by omega, by omega⟩ dX5_placeOn_9 (by decide) (fun c_2 => ?_) (fun c_2 => ?_)
  · have _ := c_2
    have h0_i : i = shN R h := by omega
    refine lv_iconst (v := iI (-1)) hx hb dX5_placeOn_30 (by decide) ?_
    exact zo_iret hx hb hr hlocks (by rw [pOn, ← h0_i, fst_none hI_i, plI_ge (Nat.le_refl _)]) dX5_placeOn_31
  · have _ := c_2
    have hl_i : i < shN R h := by omega
    refine lv_aload_n hx hb dX5_placeOn_12 rfl (lv_at hl 1 rfl) ?_
    refine lv_iload_n hx hb dX5_placeOn_13 rfl (lv_at hl 2 rfl) ?_
    refine lv_iload_n hx hb dX5_placeOn_14 rfl (lv_at hl 0 rfl) ?_
    refine ro_V (As := [Value.int (iI (h : Int)), Value.int (iI (i : Int))]) (rest := []) (v := some (Value.int (iI (R 19 (h * 6 + i))))) ⟨hx, hb, hml, hown, hts⟩ (c_X5_at l g τ ad R h i (by omega) (by omega)) gX5_placeOn_X5_at cd_X5_at rfl rfl ⟨rfl, rfl⟩ ⟨Nat.le_of_ble_eq_true rfl, Nat.le_of_ble_eq_true rfl⟩ hK hP 0 rfl rfl rfl rfl hl rfl (Nat.le_of_ble_eq_true rfl) dX5_placeOn_15 ⟨Nat.le_of_ble_eq_true rfl, Nat.le_of_ble_eq_true rfl⟩ ?_
    refine tl_some ?_
    have hb_3 := hB 19 (h * 6 + i)
    refine lv_iload_n hx hb dX5_placeOn_18 rfl (lv_at hl 3 rfl) ?_
    refine zi_icmp_ne (tgt := 24) hx hb ⟨by omega, by omega⟩ ⟨by omega, by omega⟩ dX5_placeOn_19 (by decide) (fun c_4 => ?_) (fun c_4 => ?_)
    · have _ := c_4
      refine zi_inc (v := ((i + 1 : Nat) : Int)) (lv' := [(3, Value.int (iI ((i + 1 : Nat) : Int))), (0, Value.ref (ad 17)), (1, Value.int (iI (h : Int))), (2, Value.int (iI z))]) hx hb dX5_placeOn_24 hl (k := 0) rfl (by omega) (by decide) rfl (fun ls hl => ?_)
      refine lv_goto (tgt := 2) hx hb dX5_placeOn_27 (by decide) ?_
      have hb_5 : (((i + 1) : Nat) : Int) = ((i + 1 : Nat) : Int) := by first | rfl | omega | (simp [c_2, c_4]; done)
      exact ih_2 hl_i (lt_step hI_i (by simp [onS]; omega)) _ (lv_eq (lv_sub hl [0, 1, 2, 3] rfl) (by show [(3, Value.int (iI (((i + 1) : Nat) : Int))), (0, Value.ref (ad 17)), (1, Value.int (iI (h : Int))), (2, Value.int (iI z))] = [(3, Value.int (iI ((i + 1 : Nat) : Int))), (0, Value.ref (ad 17)), (1, Value.int (iI (h : Int))), (2, Value.int (iI z))]; rw [hb_5]))
    · have _ := c_4
      refine lv_iload_n hx hb dX5_placeOn_22 rfl (lv_at hl 0 rfl) ?_
      exact zo_iret hx hb hr hlocks (by rw [pOn, fst_some hI_i (by simp [onS]; omega) hl_i, plI_lt hl_i]) dX5_placeOn_23

theorem cd_X5_shelfOf : cd yX5_shelfOf 1 := by decide +kernel
set_option maxHeartbeats 4000000 in
set_option maxRecDepth 100000 in
theorem c_X5_shelfOf (l : Launch) (g : va_G) (τ : Nat → ClassId) (ad : Nat → Nat) (R : Nat → Nat → Int) (hB : ∀ k j, -1 ≤ R k j ∧ R k j < 65536) (hN : ∀ h, h < 6 → 0 ≤ R 18 h ∧ R 18 h ≤ 6) (z : Int) (rz : -2147483648 ≤ z ∧ z < 2147483648)  : Met l yX5_shelfOf wsX5_shelfOf { frames := 2, cells := 0, slots := 0, locals := 45 } (va_Pc [Value.ref (ad 17), Value.int (iI z)] (roW g τ (shW ad R τ))) (roQ (some (Value.int (iI (plI 6 (sOf R z)))))) 0 0 nof := by
  refine roMet (cc := cX5_shelfOf) (maxL := 3) (ret := (some .int)) (lv := [(0, Value.ref (ad 17)), (1, Value.int (iI z))]) (by decide) rfl (Nat.le_of_ble_eq_true rfl) rfl ?_
  intro p e s m below meth c hx hb hr hml hts hown hlocks hP hK ls hl
  refine lv_iconst (v := iI 0) hx hb dX5_shelfOf_0 (by decide) ?_
  refine lv_istore_n (lv' := [(2, Value.int (iI 0)), (0, Value.ref (ad 17)), (1, Value.int (iI z))]) hx hb dX5_shelfOf_1 rfl hl (by decide) rfl (fun ls hl => ?_)
  refine lp_up (fun i => [(2, Value.int (iI (i : Int))), (0, Value.ref (ad 17)), (1, Value.int (iI z))]) (fun i => ∀ j, j < i → decide (pOn R j z < shN R j) = false) (6) (0) (by omega) (by first | trivial | (intro j hj; omega)) (lv_eq (lv_sub hl [0, 1, 2] rfl) (by show [(2, Value.int (iI 0)), (0, Value.ref (ad 17)), (1, Value.int (iI z))] = [(2, Value.int (iI 0)), (0, Value.ref (ad 17)), (1, Value.int (iI z))]; rfl)) (fun i h0_i hi_i hI_i ih_2 ls hl => ?_)
  refine lv_iload_n hx hb dX5_shelfOf_2 rfl (lv_at hl 0 rfl) ?_
  refine lv_bipush (v := iI 6) hx hb dX5_shelfOf_3 (by decide) ?_
  refine zi_icmp_ge (tgt := 26) hx hb ⟨by omega, by omega⟩ ⟨by decide, by decide⟩ dX5_shelfOf_5 (by decide) (fun c_1 => ?_) (fun c_1 => ?_)
  · have _ := c_1
    have h0_i : i = 6 := by omega
    refine lv_iconst (v := iI (-1)) hx hb dX5_shelfOf_26 (by decide) ?_
    exact zo_iret hx hb hr hlocks (by rw [sOf, ← h0_i, fst_none hI_i, plI_ge (Nat.le_refl _)]) dX5_shelfOf_27
  · have _ := c_1
    have hl_i : i < 6 := by omega
    refine lv_aload_n hx hb dX5_shelfOf_8 rfl (lv_at hl 1 rfl) ?_
    refine lv_iload_n hx hb dX5_shelfOf_9 rfl (lv_at hl 0 rfl) ?_
    refine lv_iload_n hx hb dX5_shelfOf_10 rfl (lv_at hl 2 rfl) ?_
    refine ro_V (As := [Value.int (iI (i : Int)), Value.int (iI z)]) (rest := []) (v := some (Value.int (iI (plI (shN R i) (pOn R i z))))) ⟨hx, hb, hml, hown, hts⟩ (c_X5_placeOn l g τ ad R hB hN i (by omega) z ⟨by omega, by omega⟩) gX5_shelfOf_X5_placeOn cd_X5_placeOn rfl rfl ⟨rfl, rfl⟩ ⟨Nat.le_of_ble_eq_true rfl, Nat.le_of_ble_eq_true rfl⟩ hK hP 0 rfl rfl rfl rfl hl rfl (Nat.le_of_ble_eq_true rfl) dX5_shelfOf_11 ⟨Nat.le_of_ble_eq_true rfl, Nat.le_of_ble_eq_true rfl⟩ ?_
    refine tl_some ?_
    have hpl := plI_r (shN R i) (pOn R i z)
    have hple : pOn R i z ≤ shN R i := fst_le _ _
    have hsn := hN i (by omega)
    have hsd : shN R i = (R 18 i).toNat := rfl
    refine lv_iconst (v := iI (-1)) hx hb dX5_shelfOf_14 (by decide) ?_
    refine zi_icmp_eq (tgt := 20) hx hb ⟨by omega, by omega⟩ ⟨by decide, by decide⟩ dX5_shelfOf_15 (by decide) (fun c_2 => ?_) (fun c_2 => ?_)
    · have _ := c_2
      refine zi_inc (v := ((i + 1 : Nat) : Int)) (lv' := [(2, Value.int (iI ((i + 1 : Nat) : Int))), (0, Value.ref (ad 17)), (1, Value.int (iI z))]) hx hb dX5_shelfOf_20 hl (k := 0) rfl (by omega) (by decide) rfl (fun ls hl => ?_)
      refine lv_goto (tgt := 2) hx hb dX5_shelfOf_23 (by decide) ?_
      have hb_3 : (((i + 1) : Nat) : Int) = ((i + 1 : Nat) : Int) := by first | rfl | omega | (simp [c_1, c_2]; done)
      exact ih_2 hl_i (lt_step hI_i (by have := plI_no c_2; simp; omega)) _ (lv_eq (lv_sub hl [0, 1, 2] rfl) (by show [(2, Value.int (iI (((i + 1) : Nat) : Int))), (0, Value.ref (ad 17)), (1, Value.int (iI z))] = [(2, Value.int (iI ((i + 1 : Nat) : Int))), (0, Value.ref (ad 17)), (1, Value.int (iI z))]; rw [hb_3]))
    · have _ := c_2
      refine lv_iload_n hx hb dX5_shelfOf_18 rfl (lv_at hl 0 rfl) ?_
      exact zo_iret hx hb hr hlocks (by rw [sOf, fst_some hI_i (by have := plI_yes c_2; simp; omega) hl_i, plI_lt hl_i]) dX5_shelfOf_19

theorem cd_X5_placeOf : cd yX5_placeOf 1 := by decide +kernel
set_option maxHeartbeats 4000000 in
set_option maxRecDepth 100000 in
theorem c_X5_placeOf (l : Launch) (g : va_G) (τ : Nat → ClassId) (ad : Nat → Nat) (R : Nat → Nat → Int) (hB : ∀ k j, -1 ≤ R k j ∧ R k j < 65536) (hN : ∀ h, h < 6 → 0 ≤ R 18 h ∧ R 18 h ≤ 6) (z : Int) (rz : -2147483648 ≤ z ∧ z < 2147483648)  : Met l yX5_placeOf wsX5_placeOf { frames := 3, cells := 0, slots := 0, locals := 67 } (va_Pc [Value.ref (ad 17), Value.int (iI z)] (roW g τ (shW ad R τ))) (roQ (some (Value.int (iI (if sOf R z < 6 then plI (shN R (sOf R z)) (pOn R (sOf R z) z) else -1))))) 0 0 nof := by
  refine roMet (cc := cX5_placeOf) (maxL := 3) (ret := (some .int)) (lv := [(0, Value.ref (ad 17)), (1, Value.int (iI z))]) (by decide) rfl (Nat.le_of_ble_eq_true rfl) rfl ?_
  intro p e s m below meth c hx hb hr hml hts hown hlocks hP hK ls hl
  refine lv_aload_n hx hb dX5_placeOf_0 rfl (lv_at hl 0 rfl) ?_
  refine lv_iload_n hx hb dX5_placeOf_1 rfl (lv_at hl 1 rfl) ?_
  refine ro_V (As := [Value.int (iI z)]) (rest := []) (v := some (Value.int (iI (plI 6 (sOf R z))))) ⟨hx, hb, hml, hown, hts⟩ (c_X5_shelfOf l g τ ad R hB hN z ⟨by omega, by omega⟩) gX5_placeOf_X5_shelfOf cd_X5_shelfOf rfl rfl ⟨rfl, rfl⟩ ⟨Nat.le_of_ble_eq_true rfl, Nat.le_of_ble_eq_true rfl⟩ hK hP 0 rfl rfl rfl rfl hl rfl (Nat.le_of_ble_eq_true rfl) dX5_placeOf_2 ⟨Nat.le_of_ble_eq_true rfl, Nat.le_of_ble_eq_true rfl⟩ ?_
  refine tl_some ?_
  have hsl := plI_r 6 (sOf R z)
  have hsle : sOf R z ≤ 6 := fst_le _ _
  refine lv_istore_n (lv' := [(2, Value.int (iI (plI 6 (sOf R z)))), (0, Value.ref (ad 17)), (1, Value.int (iI z))]) hx hb dX5_placeOf_5 rfl hl (by decide) rfl (fun ls hl => ?_)
  refine lv_iload_n hx hb dX5_placeOf_6 rfl (lv_at hl 0 rfl) ?_
  refine lv_iconst (v := iI (-1)) hx hb dX5_placeOf_7 (by decide) ?_
  refine zi_icmp_ne (tgt := 15) hx hb ⟨by omega, by omega⟩ ⟨by decide, by decide⟩ dX5_placeOf_8 (by decide) (fun c_1 => ?_) (fun c_1 => ?_)
  · have _ := c_1
    have h0 := plI_yes c_1
    rw [plI_lt h0] at hl
    refine lv_aload_n hx hb dX5_placeOf_15 rfl (lv_at hl 1 rfl) ?_
    refine lv_iload_n hx hb dX5_placeOf_16 rfl (lv_at hl 0 rfl) ?_
    refine lv_iload_n hx hb dX5_placeOf_17 rfl (lv_at hl 2 rfl) ?_
    refine ro_V (As := [Value.int (iI ((sOf R z : Nat) : Int)), Value.int (iI z)]) (rest := []) (v := some (Value.int (iI (plI (shN R (sOf R z)) (pOn R (sOf R z) z))))) ⟨hx, hb, hml, hown, hts⟩ (c_X5_placeOn l g τ ad R hB hN (sOf R z) (by omega) z ⟨by omega, by omega⟩) gX5_placeOf_X5_placeOn cd_X5_placeOn rfl rfl ⟨rfl, rfl⟩ ⟨Nat.le_of_ble_eq_true rfl, Nat.le_of_ble_eq_true rfl⟩ hK hP 0 rfl rfl rfl rfl hl rfl (Nat.le_of_ble_eq_true rfl) dX5_placeOf_18 ⟨Nat.le_of_ble_eq_true rfl, Nat.le_of_ble_eq_true rfl⟩ ?_
    refine tl_some ?_
    have hpl := plI_r (shN R (sOf R z)) (pOn R (sOf R z) z)
    have hple : pOn R (sOf R z) z ≤ shN R (sOf R z) := fst_le _ _
    have hsn := hN (sOf R z) (by omega)
    have hsd : shN R (sOf R z) = (R 18 (sOf R z)).toNat := rfl
    exact zo_iret hx hb hr hlocks (by rw [if_pos h0]) dX5_placeOf_21
  · have _ := c_1
    have h0 := plI_no c_1
    refine lv_iconst (v := iI (-1)) hx hb dX5_placeOf_11 (by decide) ?_
    refine lv_goto (tgt := 21) hx hb dX5_placeOf_12 (by decide) ?_
    exact zo_iret hx hb hr hlocks (by rw [if_neg (by omega)]) dX5_placeOf_21

theorem cd_X5_others : cd yX5_others 2 := by decide +kernel
theorem in_X5_others_X5 : ∀ w ∈ wsX50, w ∈ wsX5_others := by decide +kernel
set_option maxHeartbeats 4000000 in
set_option maxRecDepth 100000 in
theorem c_X5_others (l : Launch) (g : va_G) (τ : Nat → ClassId) (ad : Nat → Nat) (R : Nat → Nat → Int) (hB : ∀ k j, -1 ≤ R k j ∧ R k j < 65536) (hN : ∀ h, h < 6 → 0 ≤ R 18 h ∧ R 18 h ≤ 6) (h : Nat) (hh : h < 6) (z : Int) (rz : -2147483648 ≤ z ∧ z < 2147483648)  : Met l yX5_others wsX5_others { frames := 2, cells := 0, slots := 0, locals := 45 } (va_Pc [Value.ref (ad 17), Value.int (iI (h : Int)), Value.int (iI z)] (roW g τ (shW ad R τ))) (roQ (some (Value.int (iI (if pOn R h z < shN R h then R 18 h - 1 else R 18 h))))) 0 0 nof := by
  refine roMet (cc := cX5_others) (maxL := 3) (ret := (some .int)) (lv := [(0, Value.ref (ad 17)), (1, Value.int (iI (h : Int))), (2, Value.int (iI z))]) (by decide) rfl (Nat.le_of_ble_eq_true rfl) rfl ?_
  intro p e s m below meth c hx hb hr hml hts hown hlocks hP hK ls hl
  refine lv_aload_n hx hb dX5_others_0 rfl (lv_at hl 0 rfl) ?_
  refine lv_iload_n hx hb dX5_others_1 rfl (lv_at hl 1 rfl) ?_
  refine lv_iload_n hx hb dX5_others_2 rfl (lv_at hl 2 rfl) ?_
  refine ro_V (As := [Value.int (iI (h : Int)), Value.int (iI z)]) (rest := []) (v := some (Value.int (iI (plI (shN R h) (pOn R h z))))) ⟨hx, hb, hml, hown, hts⟩ (c_X5_placeOn l g τ ad R hB hN h (by omega) z ⟨by omega, by omega⟩) gX5_others_X5_placeOn cd_X5_placeOn rfl rfl ⟨rfl, rfl⟩ ⟨Nat.le_of_ble_eq_true rfl, Nat.le_of_ble_eq_true rfl⟩ hK hP 0 rfl rfl rfl rfl hl rfl (Nat.le_of_ble_eq_true rfl) dX5_others_3 ⟨Nat.le_of_ble_eq_true rfl, Nat.le_of_ble_eq_true rfl⟩ ?_
  refine tl_some ?_
  have hpl := plI_r (shN R h) (pOn R h z)
  have hple : pOn R h z ≤ shN R h := fst_le _ _
  have hsn := hN h (by omega)
  have hsd : shN R h = (R 18 h).toNat := rfl
  refine lv_iconst (v := iI (-1)) hx hb dX5_others_6 (by decide) ?_
  refine zi_icmp_ne (tgt := 19) hx hb ⟨by omega, by omega⟩ ⟨by decide, by decide⟩ dX5_others_7 (by decide) (fun c_1 => ?_) (fun c_1 => ?_)
  · have _ := c_1
    have h0 := plI_yes c_1
    refine lv_aload_n hx hb dX5_others_19 rfl (lv_at hl 0 rfl) ?_
    refine va_get (D := g) (ci := 5) (v := Value.ref (ad 18)) (C := RX5) (T := TX5) (N := 2) hx hb hts in_X5_others_X5 hown hK.1 hP 0 (rfl) rfl 0 (by decide) (hts _ (List.mem_of_getElem? (i := 1) rfl) : (Cond.fieldLink RX5 9 "CordSeals$Shelves" "count" "[I").before _ s = true) (fun _ h9 => h9) rfl dX5_others_20 ?_
    refine lv_iload_n hx hb dX5_others_23 rfl (lv_at hl 1 rfl) ?_
    refine zi_ald hx hb hK hP 1 (f := (R 18)) (rfl) (h) (rfl) (by omega) (by decide) dX5_others_24 ?_
    have hb_2 := hB 18 h
    refine lv_iconst (v := iI 1) hx hb dX5_others_25 (by decide) ?_
    refine zi_sub hx hb dX5_others_26 ?_
    exact zo_iret hx hb hr hlocks (by rw [if_pos h0]) dX5_others_27
  · have _ := c_1
    have h0 := plI_no c_1
    refine lv_aload_n hx hb dX5_others_10 rfl (lv_at hl 0 rfl) ?_
    refine va_get (D := g) (ci := 5) (v := Value.ref (ad 18)) (C := RX5) (T := TX5) (N := 2) hx hb hts in_X5_others_X5 hown hK.1 hP 0 (rfl) rfl 0 (by decide) (hts _ (List.mem_of_getElem? (i := 1) rfl) : (Cond.fieldLink RX5 9 "CordSeals$Shelves" "count" "[I").before _ s = true) (fun _ h9 => h9) rfl dX5_others_11 ?_
    refine lv_iload_n hx hb dX5_others_14 rfl (lv_at hl 1 rfl) ?_
    refine zi_ald hx hb hK hP 1 (f := (R 18)) (rfl) (h) (rfl) (by omega) (by decide) dX5_others_15 ?_
    have hb_3 := hB 18 h
    refine lv_goto (tgt := 27) hx hb dX5_others_16 (by decide) ?_
    exact zo_iret hx hb hr hlocks (by rw [if_neg (by omega)]) dX5_others_27

theorem cd_X5_put : cd yX5_put 3 := by decide +kernel
theorem in_X5_put_X5 : ∀ w ∈ wsX50, w ∈ wsX5_put := by decide +kernel
set_option maxHeartbeats 4000000 in
set_option maxRecDepth 100000 in
theorem c_X5_put (l : Launch) (g : va_G) (τ : Nat → ClassId) (ad : Nat → Nat) (R : Nat → Nat → Int) (h k : Nat) (hh : h < 6) (hk : k < 6) (z : Int) : Met l yX5_put wsX5_put { frames := 0, cells := 0, slots := 0, locals := 0 } (va_Pc [Value.ref (ad 17), Value.int (iI (h : Int)), Value.int (iI (k : Int)), Value.int (iI z)] (rwW g τ (shW ad R τ))) (rwQ g (fun v w => v = none ∧ w = shW ad (u2 R 19 (updZ (R 19) (h * 6 + k) z)) τ) (inW (shW ad R τ))) 0 0 (inW (shW ad R τ)) := by
  refine rwMet (cc := cX5_put) (maxL := 4) (ret := none) (lv := [(0, Value.ref (ad 17)), (1, Value.int (iI (h : Int))), (2, Value.int (iI (k : Int))), (3, Value.int (iI z))]) (by decide) rfl (Nat.le_of_ble_eq_true rfl) rfl ?_
  intro p e s m below meth c hx hb hr hml hts hown hlocks A H hP hD hS hK ls hl
  refine lv_aload_n hx hb dX5_put_0 rfl (lv_at hl 0 rfl) ?_
  refine va_get (D := g) (ci := 5) (v := Value.ref (ad 19)) (C := RX5) (T := TX5) (N := 2) hx hb hts in_X5_put_X5 hown hK.1 hP 0 (rfl) rfl 1 (by decide) (hts _ (List.mem_of_getElem? (i := 1) rfl) : (Cond.fieldLink RX5 15 "CordSeals$Shelves" "seals" "[I").before _ s = true) (fun _ h9 => h9) rfl dX5_put_1 ?_
  refine lv_iload_n hx hb dX5_put_4 rfl (lv_at hl 1 rfl) ?_
  refine lv_bipush (v := iI 6) hx hb dX5_put_5 (by decide) ?_
  refine zi_mul hx hb dX5_put_7 ?_
  refine lv_iload_n hx hb dX5_put_8 rfl (lv_at hl 2 rfl) ?_
  refine zi_add hx hb dX5_put_9 ?_
  refine lv_iload_n hx hb dX5_put_10 rfl (lv_at hl 3 rfl) ?_
  refine zi_ast hx hb hK hP hD hS 2 (f := (R 19)) (rfl) ((h * 6) + k) (by omega) (by omega) (by decide) dX5_put_11 (wo := shW ad (u2 R 19 (updZ (R 19) ((h * 6) + k) z)) τ) rfl (fun H locs hP hD hS => ?_)
  exact rw_vret hx hb hr hlocks hP hS (⟨rfl, rfl⟩) dX5_put_12

theorem cd_X5_makeEmpty : cd yX5_makeEmpty 0 := by decide +kernel
theorem in_X5_makeEmpty_X5 : ∀ w ∈ wsX50, w ∈ wsX5_makeEmpty := by decide +kernel
set_option maxHeartbeats 4000000 in
set_option maxRecDepth 100000 in
theorem c_X5_makeEmpty (l : Launch) (g : va_G) (τ : Nat → ClassId) (ad : Nat → Nat) (R : Nat → Nat → Int)  : Met l yX5_makeEmpty wsX5_makeEmpty { frames := 0, cells := 0, slots := 0, locals := 0 } (va_Pc [Value.ref (ad 17)] (rwW g τ (shW ad R τ))) (rwQ g (fun v w => v = none ∧ w = shW ad (u2 R 18 (zf (R 18) 6)) τ) (inW (shW ad R τ))) 0 0 (inW (shW ad R τ)) := by
  refine rwMet (cc := cX5_makeEmpty) (maxL := 2) (ret := none) (lv := [(0, Value.ref (ad 17))]) (by decide) rfl (Nat.le_of_ble_eq_true rfl) rfl ?_
  intro p e s m below meth c hx hb hr hml hts hown hlocks A H hP hD hS hK ls hl
  refine lv_iconst (v := iI 0) hx hb dX5_makeEmpty_0 (by decide) ?_
  refine lv_istore_n (lv' := [(1, Value.int (iI 0)), (0, Value.ref (ad 17))]) hx hb dX5_makeEmpty_1 rfl hl (by decide) rfl (fun ls hl => ?_)
  have hP : va_P g vwCl (shW ad (u2 R 18 (zf (R 18) 0)) τ) H := by first | exact hP | (rw [show shW ad (u2 R 18 (zf (R 18) 0)) τ = shW ad R τ from by rw [zf_0]; rfl]; exact hP)
  have hD : va_D A (shW ad (u2 R 18 (zf (R 18) 0)) τ) := by first | exact hD | (rw [show shW ad (u2 R 18 (zf (R 18) 0)) τ = shW ad R τ from by rw [zf_0]; rfl]; exact hD)
  refine lp_upW (fun i => [(1, Value.int (iI (i : Int))), (0, Value.ref (ad 17))]) (fun i => shW ad (u2 R 18 (zf (R 18) i)) τ) (fun i => True) (6) (0) (by omega) hP hD hS (by first | trivial | (intro j hj; omega)) (lv_eq (lv_sub hl [0, 1] rfl) (by show [(1, Value.int (iI 0)), (0, Value.ref (ad 17))] = [(1, Value.int (iI 0)), (0, Value.ref (ad 17))]; rfl)) (fun i h0_i hi_i hI_i ih_2 H locs hP hD hS ls hl => ?_)
  refine lv_iload_n hx hb dX5_makeEmpty_2 rfl (lv_at hl 0 rfl) ?_
  refine lv_bipush (v := iI 6) hx hb dX5_makeEmpty_3 (by decide) ?_
  refine zi_icmp_ge (tgt := 21) hx hb ⟨by omega, by omega⟩ ⟨by decide, by decide⟩ dX5_makeEmpty_5 (by decide) (fun c_1 => ?_) (fun c_1 => ?_)
  · have _ := c_1
    have h0_i : i = 6 := by omega
    exact rw_vret hx hb hr hlocks hP hS (⟨rfl, by rw [h0_i]⟩) dX5_makeEmpty_21
  · have _ := c_1
    have hl_i : i < 6 := by omega
    refine lv_aload_n hx hb dX5_makeEmpty_8 rfl (lv_at hl 1 rfl) ?_
    refine va_get (D := g) (ci := 5) (v := Value.ref (ad 18)) (C := RX5) (T := TX5) (N := 2) hx hb hts in_X5_makeEmpty_X5 hown hK.1 hP 0 (rfl) rfl 0 (by decide) (hts _ (List.mem_of_getElem? (i := 1) rfl) : (Cond.fieldLink RX5 9 "CordSeals$Shelves" "count" "[I").before _ s = true) (fun _ h9 => h9) rfl dX5_makeEmpty_9 ?_
    refine lv_iload_n hx hb dX5_makeEmpty_12 rfl (lv_at hl 0 rfl) ?_
    refine lv_iconst (v := iI 0) hx hb dX5_makeEmpty_13 (by decide) ?_
    refine zi_ast hx hb hK hP hD hS 1 (f := (zf (R 18) i)) (rfl) (i) (rfl) (by omega) (by decide) dX5_makeEmpty_14 (wo := shW ad (u2 (u2 R 18 (zf (R 18) i)) 18 (updZ (zf (R 18) i) i 0)) τ) rfl (fun H locs hP hD hS => ?_)
    refine zi_inc (v := ((i + 1 : Nat) : Int)) (lv' := [(1, Value.int (iI ((i + 1 : Nat) : Int))), (0, Value.ref (ad 17))]) hx hb dX5_makeEmpty_15 hl (k := 0) rfl (by omega) (by decide) rfl (fun ls hl => ?_)
    refine lv_goto (tgt := 2) hx hb dX5_makeEmpty_18 (by decide) ?_
    have hb_2 : (((i + 1) : Nat) : Int) = ((i + 1 : Nat) : Int) := by first | rfl | omega | (simp [c_1]; done)
    have hw_3 : shW ad (u2 (u2 R 18 (zf (R 18) i)) 18 (updZ (zf (R 18) i) i 0)) τ = shW ad (u2 R 18 (zf (R 18) (i + 1))) τ := by rw [← zf_s]; rfl
    rw [hw_3] at hP hD
    exact ih_2 hl_i (trivial) _ _ _ hP hD hS (lv_eq (lv_sub hl [0, 1] rfl) (by show [(1, Value.int (iI (((i + 1) : Nat) : Int))), (0, Value.ref (ad 17))] = [(1, Value.int (iI ((i + 1 : Nat) : Int))), (0, Value.ref (ad 17))]; rw [hb_2]))

theorem cd_X5_remove : cd yX5_remove 1 := by decide +kernel
theorem in_X5_remove_X5 : ∀ w ∈ wsX50, w ∈ wsX5_remove := by decide +kernel
set_option maxHeartbeats 4000000 in
set_option maxRecDepth 100000 in
theorem c_X5_remove (l : Launch) (g : va_G) (τ : Nat → ClassId) (ad : Nat → Nat) (R : Nat → Nat → Int) (hB : ∀ k j, -1 ≤ R k j ∧ R k j < 65536) (hN : ∀ h, h < 6 → 0 ≤ R 18 h ∧ R 18 h ≤ 6) (z : Int) (rz : -2147483648 ≤ z ∧ z < 2147483648)  : Met l yX5_remove wsX5_remove { frames := 3, cells := 0, slots := 0, locals := 67 } (va_Pc [Value.ref (ad 17), Value.int (iI z)] (rwW g τ (shW ad R τ))) (rwQ g (fun v w => v = none ∧ w = shW ad (rmR R z) τ) (inW (shW ad R τ))) 0 0 (inW (shW ad R τ)) := by
  refine rwMet (cc := cX5_remove) (maxL := 4) (ret := none) (lv := [(0, Value.ref (ad 17)), (1, Value.int (iI z))]) (by decide) rfl (Nat.le_of_ble_eq_true rfl) rfl ?_
  intro p e s m below meth c hx hb hr hml hts hown hlocks A H hP hD hS hK ls hl
  refine lv_aload_n hx hb dX5_remove_0 rfl (lv_at hl 0 rfl) ?_
  refine lv_iload_n hx hb dX5_remove_1 rfl (lv_at hl 1 rfl) ?_
  refine ro_V (As := [Value.int (iI z)]) (rest := []) (v := some (Value.int (iI (plI 6 (sOf R z))))) ⟨hx, hb, hml, hown, hts⟩ (c_X5_shelfOf l g τ ad R hB hN z ⟨by omega, by omega⟩) gX5_remove_X5_shelfOf cd_X5_shelfOf rfl rfl ⟨rfl, rfl⟩ ⟨Nat.le_of_ble_eq_true rfl, Nat.le_of_ble_eq_true rfl⟩ hK hP 0 rfl rfl rfl rfl hl rfl (Nat.le_of_ble_eq_true rfl) dX5_remove_2 ⟨Nat.le_of_ble_eq_true rfl, Nat.le_of_ble_eq_true rfl⟩ ?_
  refine tl_some ?_
  have hsl := plI_r 6 (sOf R z)
  have hsle : sOf R z ≤ 6 := fst_le _ _
  refine lv_istore_n (lv' := [(2, Value.int (iI (plI 6 (sOf R z)))), (0, Value.ref (ad 17)), (1, Value.int (iI z))]) hx hb dX5_remove_5 rfl hl (by decide) rfl (fun ls hl => ?_)
  refine lv_iload_n hx hb dX5_remove_6 rfl (lv_at hl 0 rfl) ?_
  refine lv_iconst (v := iI (-1)) hx hb dX5_remove_7 (by decide) ?_
  refine zi_icmp_ne (tgt := 12) hx hb ⟨by omega, by omega⟩ ⟨by decide, by decide⟩ dX5_remove_8 (by decide) (fun c_1 => ?_) (fun c_1 => ?_)
  · have _ := c_1
    have h0 := plI_yes c_1
    have h1 : pOn R (sOf R z) z < shN R (sOf R z) := of_decide_eq_true (fst_lt (p := fun h => decide (pOn R h z < shN R h)) h0)
    rw [plI_lt h0] at hl
    refine lv_aload_n hx hb dX5_remove_12 rfl (lv_at hl 1 rfl) ?_
    refine lv_iload_n hx hb dX5_remove_13 rfl (lv_at hl 0 rfl) ?_
    refine lv_iload_n hx hb dX5_remove_14 rfl (lv_at hl 2 rfl) ?_
    refine ro_V (As := [Value.int (iI ((sOf R z : Nat) : Int)), Value.int (iI z)]) (rest := []) (v := some (Value.int (iI (plI (shN R (sOf R z)) (pOn R (sOf R z) z))))) ⟨hx, hb, hml, hown, hts⟩ (c_X5_placeOn l g τ ad R hB hN (sOf R z) (by omega) z ⟨by omega, by omega⟩) gX5_remove_X5_placeOn cd_X5_placeOn rfl rfl ⟨rfl, rfl⟩ ⟨Nat.le_of_ble_eq_true rfl, Nat.le_of_ble_eq_true rfl⟩ hK hP 0 rfl rfl rfl rfl hl rfl (Nat.le_of_ble_eq_true rfl) dX5_remove_15 ⟨Nat.le_of_ble_eq_true rfl, Nat.le_of_ble_eq_true rfl⟩ ?_
    refine tl_some ?_
    have hpl := plI_r (shN R (sOf R z)) (pOn R (sOf R z) z)
    have hple : pOn R (sOf R z) z ≤ shN R (sOf R z) := fst_le _ _
    have hsn := hN (sOf R z) (by omega)
    have hsd : shN R (sOf R z) = (R 18 (sOf R z)).toNat := rfl
    refine cv_i (y := iI ((pOn R (sOf R z) z : Nat) : Int)) (congrArg iI (plI_lt h1)) ?_
    refine lv_iconst (v := iI 1) hx hb dX5_remove_18 (by decide) ?_
    refine zi_add hx hb dX5_remove_19 ?_
    refine lv_istore_n (lv' := [(3, Value.int (iI (((pOn R (sOf R z) z : Nat) : Int) + 1))), (2, Value.int (iI ((sOf R z : Nat) : Int))), (0, Value.ref (ad 17)), (1, Value.int (iI z))]) hx hb dX5_remove_20 rfl hl (by decide) rfl (fun ls hl => ?_)
    have h0_2 : (((pOn R (sOf R z) z) + 1 : Nat) : Int) = ((pOn R (sOf R z) z : Nat) : Int) + 1 := by first | rfl | omega | (simp [c_1]; done)
    have hP : va_P g vwCl (shW ad (u2 R 19 (shl (R 19) ((sOf R z) * 6 + (pOn R (sOf R z) z)) ((sOf R z) * 6 + (pOn R (sOf R z) z)))) τ) H := by first | exact hP | (rw [show shW ad (u2 R 19 (shl (R 19) (sOf R z * 6 + pOn R (sOf R z) z) (sOf R z * 6 + pOn R (sOf R z) z))) τ = shW ad R τ from by rw [shl_0]; rfl]; exact hP)
    have hD : va_D A (shW ad (u2 R 19 (shl (R 19) ((sOf R z) * 6 + (pOn R (sOf R z) z)) ((sOf R z) * 6 + (pOn R (sOf R z) z)))) τ) := by first | exact hD | (rw [show shW ad (u2 R 19 (shl (R 19) (sOf R z * 6 + pOn R (sOf R z) z) (sOf R z * 6 + pOn R (sOf R z) z))) τ = shW ad R τ from by rw [shl_0]; rfl]; exact hD)
    refine lp_upW (fun i => [(3, Value.int (iI ((i + 1 : Nat) : Int))), (2, Value.int (iI ((sOf R z : Nat) : Int))), (0, Value.ref (ad 17)), (1, Value.int (iI z))]) (fun i => shW ad (u2 R 19 (shl (R 19) ((sOf R z) * 6 + (pOn R (sOf R z) z)) ((sOf R z) * 6 + i))) τ) (fun i => True) (shN R (sOf R z) - 1) (pOn R (sOf R z) z) (by omega) hP hD hS (by first | trivial | (intro j hj; omega)) (lv_eq (lv_sub hl [0, 1, 2, 3] rfl) (by show [(3, Value.int (iI (((pOn R (sOf R z) z) + 1 : Nat) : Int))), (2, Value.int (iI ((sOf R z : Nat) : Int))), (0, Value.ref (ad 17)), (1, Value.int (iI z))] = [(3, Value.int (iI (((pOn R (sOf R z) z : Nat) : Int) + 1))), (2, Value.int (iI ((sOf R z : Nat) : Int))), (0, Value.ref (ad 17)), (1, Value.int (iI z))]; rw [h0_2])) (fun i h0_i hi_i hI_i ih_21 H locs hP hD hS ls hl => ?_)
    refine lv_iload_n hx hb dX5_remove_21 rfl (lv_at hl 0 rfl) ?_
    refine lv_aload_n hx hb dX5_remove_22 rfl (lv_at hl 2 rfl) ?_
    refine va_get (D := g) (ci := 5) (v := Value.ref (ad 18)) (C := RX5) (T := TX5) (N := 2) hx hb hts in_X5_remove_X5 hown hK.1 hP 0 (rfl) rfl 0 (by decide) (hts _ (List.mem_of_getElem? (i := 1) rfl) : (Cond.fieldLink RX5 9 "CordSeals$Shelves" "count" "[I").before _ s = true) (fun _ h9 => h9) rfl dX5_remove_23 ?_
    refine lv_iload_n hx hb dX5_remove_26 rfl (lv_at hl 1 rfl) ?_
    refine zi_ald hx hb hK hP 1 (f := (R 18)) (rfl) (sOf R z) (rfl) (by omega) (by decide) dX5_remove_27 ?_
    have hb_3 := hB 18 (sOf R z)
    refine zi_icmp_ge (tgt := 51) hx hb ⟨by omega, by omega⟩ ⟨by omega, by omega⟩ dX5_remove_28 (by decide) (fun c_4 => ?_) (fun c_4 => ?_)
    · have _ := c_4
      have h0_i : i = shN R (sOf R z) - 1 := by omega
      refine lv_aload_n hx hb dX5_remove_51 rfl (lv_at hl 2 rfl) ?_
      refine va_get (D := g) (ci := 5) (v := Value.ref (ad 18)) (C := RX5) (T := TX5) (N := 2) hx hb hts in_X5_remove_X5 hown hK.1 hP 0 (rfl) rfl 0 (by decide) (hts _ (List.mem_of_getElem? (i := 1) rfl) : (Cond.fieldLink RX5 9 "CordSeals$Shelves" "count" "[I").before _ s = true) (fun _ h9 => h9) rfl dX5_remove_52 ?_
      refine lv_iload_n hx hb dX5_remove_55 rfl (lv_at hl 1 rfl) ?_
      refine lv_dup2_11 hx hb dX5_remove_56 rfl rfl ?_
      refine zi_ald hx hb hK hP 1 (f := (R 18)) (rfl) (sOf R z) (rfl) (by omega) (by decide) dX5_remove_57 ?_
      have hb_5 := hB 18 (sOf R z)
      refine lv_iconst (v := iI 1) hx hb dX5_remove_58 (by decide) ?_
      refine zi_sub hx hb dX5_remove_59 ?_
      refine zi_ast hx hb hK hP hD hS 1 (f := (R 18)) (rfl) (sOf R z) (rfl) (by omega) (by decide) dX5_remove_60 (wo := shW ad (u2 (u2 R 19 (shl (R 19) ((sOf R z) * 6 + (pOn R (sOf R z) z)) ((sOf R z) * 6 + i))) 18 (updZ (R 18) (sOf R z) ((R 18 (sOf R z)) - 1))) τ) rfl (fun H locs hP hD hS => ?_)
      exact rw_vret hx hb hr hlocks hP hS (⟨rfl, by rw [rmR, if_pos h0, ← h0_i]⟩) dX5_remove_61
    · have _ := c_4
      have hl_i : i < shN R (sOf R z) - 1 := by omega
      refine lv_aload_n hx hb dX5_remove_31 rfl (lv_at hl 2 rfl) ?_
      refine lv_iload_n hx hb dX5_remove_32 rfl (lv_at hl 1 rfl) ?_
      refine lv_iload_n hx hb dX5_remove_33 rfl (lv_at hl 0 rfl) ?_
      refine lv_iconst (v := iI 1) hx hb dX5_remove_34 (by decide) ?_
      refine zi_sub hx hb dX5_remove_35 ?_
      refine cv_i (y := iI (i : Int)) (congrArg iI (by omega)) ?_
      refine lv_aload_n hx hb dX5_remove_36 rfl (lv_at hl 2 rfl) ?_
      refine lv_iload_n hx hb dX5_remove_37 rfl (lv_at hl 1 rfl) ?_
      refine lv_iload_n hx hb dX5_remove_38 rfl (lv_at hl 0 rfl) ?_
      refine ro_V (As := [Value.int (iI ((sOf R z : Nat) : Int)), Value.int (iI ((i + 1 : Nat) : Int))]) (rest := [Value.int (iI (i : Int)), Value.int (iI ((sOf R z : Nat) : Int)), Value.ref (ad 17)]) (v := some (Value.int (iI ((shl (R 19) ((sOf R z) * 6 + (pOn R (sOf R z) z)) ((sOf R z) * 6 + i)) ((sOf R z) * 6 + (i + 1)))))) ⟨hx, hb, hml, hown, hts⟩ (c_X5_at l g τ ad (u2 R 19 (shl (R 19) ((sOf R z) * 6 + (pOn R (sOf R z) z)) ((sOf R z) * 6 + i))) (sOf R z) (i + 1) (by omega) (by omega)) gX5_remove_X5_at cd_X5_at rfl rfl ⟨rfl, rfl⟩ ⟨Nat.le_of_ble_eq_true rfl, Nat.le_of_ble_eq_true rfl⟩ hK hP 0 rfl rfl rfl rfl hl rfl (Nat.le_of_ble_eq_true rfl) dX5_remove_39 ⟨Nat.le_of_ble_eq_true rfl, Nat.le_of_ble_eq_true rfl⟩ ?_
      refine tl_some ?_
      refine rw_V (As := [Value.int (iI ((sOf R z : Nat) : Int)), Value.int (iI (i : Int)), Value.int (iI ((shl (R 19) ((sOf R z) * 6 + (pOn R (sOf R z) z)) ((sOf R z) * 6 + i)) ((sOf R z) * 6 + (i + 1))))]) (rest := []) ⟨hx, hb, hml, hown, hts⟩ (c_X5_put l g τ ad (u2 R 19 (shl (R 19) ((sOf R z) * 6 + (pOn R (sOf R z) z)) ((sOf R z) * 6 + i))) (sOf R z) i (by omega) (by omega) ((shl (R 19) ((sOf R z) * 6 + (pOn R (sOf R z) z)) ((sOf R z) * 6 + i)) ((sOf R z) * 6 + (i + 1)))) gX5_remove_X5_put cd_X5_put rfl rfl ⟨rfl, rfl⟩ ⟨Nat.le_of_ble_eq_true rfl, Nat.le_of_ble_eq_true rfl⟩ hK hP hD hS [0, 1, 2] rfl (by decide) 0 rfl rfl rfl rfl hl rfl (Nat.le_of_ble_eq_true rfl) dX5_remove_42 ⟨Nat.le_of_ble_eq_true rfl, Nat.le_of_ble_eq_true rfl⟩ (fun v w h => by rw [h.2]; rfl) (fun v w1 H locs hZ hP hD hS => ?_)
      obtain ⟨rfl, rfl⟩ := hZ
      have hP : va_P g vwCl (shW ad (u2 (u2 R 19 (shl (R 19) ((sOf R z) * 6 + (pOn R (sOf R z) z)) ((sOf R z) * 6 + i))) 19 (updZ (shl (R 19) ((sOf R z) * 6 + (pOn R (sOf R z) z)) ((sOf R z) * 6 + i)) ((sOf R z) * 6 + i) ((shl (R 19) ((sOf R z) * 6 + (pOn R (sOf R z) z)) ((sOf R z) * 6 + i)) ((sOf R z) * 6 + (i + 1))))) τ) H := hP
      have hD : va_D A (shW ad (u2 (u2 R 19 (shl (R 19) ((sOf R z) * 6 + (pOn R (sOf R z) z)) ((sOf R z) * 6 + i))) 19 (updZ (shl (R 19) ((sOf R z) * 6 + (pOn R (sOf R z) z)) ((sOf R z) * 6 + i)) ((sOf R z) * 6 + i) ((shl (R 19) ((sOf R z) * 6 + (pOn R (sOf R z) z)) ((sOf R z) * 6 + i)) ((sOf R z) * 6 + (i + 1))))) τ) := hD
      refine tl_none ?_
      refine zi_inc (v := (((i + 1) + 1 : Nat) : Int)) (lv' := [(3, Value.int (iI (((i + 1) + 1 : Nat) : Int))), (2, Value.int (iI ((sOf R z : Nat) : Int))), (0, Value.ref (ad 17)), (1, Value.int (iI z))]) hx hb dX5_remove_45 hl (k := 0) rfl (by omega) (by decide) rfl (fun ls hl => ?_)
      refine lv_goto (tgt := 21) hx hb dX5_remove_48 (by decide) ?_
      have hw_6 : shW ad (u2 (u2 R 19 (shl (R 19) ((sOf R z) * 6 + (pOn R (sOf R z) z)) ((sOf R z) * 6 + i))) 19 (updZ (shl (R 19) ((sOf R z) * 6 + (pOn R (sOf R z) z)) ((sOf R z) * 6 + i)) ((sOf R z) * 6 + i) ((shl (R 19) ((sOf R z) * 6 + (pOn R (sOf R z) z)) ((sOf R z) * 6 + i)) ((sOf R z) * 6 + (i + 1))))) τ = shW ad (u2 R 19 (shl (R 19) ((sOf R z) * 6 + (pOn R (sOf R z) z)) ((sOf R z) * 6 + (i + 1)))) τ := by rw [show sOf R z * 6 + (i + 1) = sOf R z * 6 + i + 1 from rfl, ← shl_s (by omega)]; rfl
      rw [hw_6] at hP hD
      exact ih_21 hl_i (trivial) _ _ _ hP hD hS (lv_eq (lv_sub hl [0, 1, 2, 3] rfl) (by show [(3, Value.int (iI (((i + 1) + 1 : Nat) : Int))), (2, Value.int (iI ((sOf R z : Nat) : Int))), (0, Value.ref (ad 17)), (1, Value.int (iI z))] = [(3, Value.int (iI (((i + 1) + 1 : Nat) : Int))), (2, Value.int (iI ((sOf R z : Nat) : Int))), (0, Value.ref (ad 17)), (1, Value.int (iI z))]; rfl))
  · have _ := c_1
    have h0 := plI_no c_1
    exact rw_vret hx hb hr hlocks hP hS (⟨rfl, by rw [rmR, if_neg (by omega)]⟩) dX5_remove_11

theorem cd_X5_insert : cd yX5_insert 3 := by decide +kernel
theorem in_X5_insert_X5 : ∀ w ∈ wsX50, w ∈ wsX5_insert := by decide +kernel
set_option maxHeartbeats 4000000 in
set_option maxRecDepth 100000 in
theorem c_X5_insert (l : Launch) (g : va_G) (τ : Nat → ClassId) (ad : Nat → Nat) (R : Nat → Nat → Int) (hB : ∀ k j, -1 ≤ R k j ∧ R k j < 65536) (hN : ∀ h, h < 6 → 0 ≤ R 18 h ∧ R 18 h ≤ 6) (h k : Nat) (hh : h < 6) (hk : k ≤ shN R h) (hm : shN R h < 6) (z : Int) : Met l yX5_insert wsX5_insert { frames := 1, cells := 0, slots := 0, locals := 23 } (va_Pc [Value.ref (ad 17), Value.int (iI (h : Int)), Value.int (iI (k : Int)), Value.int (iI z)] (rwW g τ (shW ad R τ))) (rwQ g (fun v w => v = none ∧ w = shW ad (inR R h k z) τ) (inW (shW ad R τ))) 0 0 (inW (shW ad R τ)) := by
  have hm1 := hN h hh
  have hs : shN R h = (R 18 h).toNat := rfl
  refine rwMet (cc := cX5_insert) (maxL := 5) (ret := none) (lv := [(0, Value.ref (ad 17)), (1, Value.int (iI (h : Int))), (2, Value.int (iI (k : Int))), (3, Value.int (iI z))]) (by decide) rfl (Nat.le_of_ble_eq_true rfl) rfl ?_
  intro p e s m below meth c hx hb hr hml hts hown hlocks A H hP hD hS hK ls hl
  refine lv_aload_n hx hb dX5_insert_0 rfl (lv_at hl 0 rfl) ?_
  refine va_get (D := g) (ci := 5) (v := Value.ref (ad 18)) (C := RX5) (T := TX5) (N := 2) hx hb hts in_X5_insert_X5 hown hK.1 hP 0 (rfl) rfl 0 (by decide) (hts _ (List.mem_of_getElem? (i := 1) rfl) : (Cond.fieldLink RX5 9 "CordSeals$Shelves" "count" "[I").before _ s = true) (fun _ h9 => h9) rfl dX5_insert_1 ?_
  refine lv_iload_n hx hb dX5_insert_4 rfl (lv_at hl 1 rfl) ?_
  refine zi_ald hx hb hK hP 1 (f := (R 18)) (rfl) (h) (rfl) (by omega) (by decide) dX5_insert_5 ?_
  have hb_1 := hB 18 h
  refine lv_istore (lv' := [(4, Value.int (iI (R 18 h))), (0, Value.ref (ad 17)), (1, Value.int (iI (h : Int))), (2, Value.int (iI (k : Int))), (3, Value.int (iI z))]) hx hb dX5_insert_6 hl (by decide) rfl (fun ls hl => ?_)
  have h0_2 : ((shN R h - 0 : Nat) : Int) = R 18 h := by omega
  have hP : va_P g vwCl (shW ad (u2 R 19 (shr (R 19) (h * 6 + (shN R h - 0)) (h * 6 + shN R h))) τ) H := by first | exact hP | (rw [show shW ad (u2 R 19 (shr (R 19) (h * 6 + (shN R h - 0)) (h * 6 + shN R h))) τ = shW ad R τ from by rw [Nat.sub_zero, shr_0]; rfl]; exact hP)
  have hD : va_D A (shW ad (u2 R 19 (shr (R 19) (h * 6 + (shN R h - 0)) (h * 6 + shN R h))) τ) := by first | exact hD | (rw [show shW ad (u2 R 19 (shr (R 19) (h * 6 + (shN R h - 0)) (h * 6 + shN R h))) τ = shW ad R τ from by rw [Nat.sub_zero, shr_0]; rfl]; exact hD)
  refine lp_upW (fun i => [(4, Value.int (iI ((shN R h - i : Nat) : Int))), (0, Value.ref (ad 17)), (1, Value.int (iI (h : Int))), (2, Value.int (iI (k : Int))), (3, Value.int (iI z))]) (fun i => shW ad (u2 R 19 (shr (R 19) (h * 6 + (shN R h - i)) (h * 6 + shN R h))) τ) (fun i => True) (shN R h - k) (0) (by omega) hP hD hS (by first | trivial | (intro j hj; omega)) (lv_eq (lv_sub hl [0, 1, 2, 3, 4] rfl) (by show [(4, Value.int (iI ((shN R h - 0 : Nat) : Int))), (0, Value.ref (ad 17)), (1, Value.int (iI (h : Int))), (2, Value.int (iI (k : Int))), (3, Value.int (iI z))] = [(4, Value.int (iI (R 18 h))), (0, Value.ref (ad 17)), (1, Value.int (iI (h : Int))), (2, Value.int (iI (k : Int))), (3, Value.int (iI z))]; rw [h0_2])) (fun i h0_i hi_i hI_i ih_8 H locs hP hD hS ls hl => ?_)
  refine lv_iload hx hb dX5_insert_8 (lv_at hl 0 rfl) ?_
  refine lv_iload_n hx hb dX5_insert_10 rfl (lv_at hl 3 rfl) ?_
  refine zi_icmp_le (tgt := 36) hx hb ⟨by omega, by omega⟩ ⟨by omega, by omega⟩ dX5_insert_11 (by decide) (fun c_3 => ?_) (fun c_3 => ?_)
  · have _ := c_3
    have h0_i : i = shN R h - k := by omega
    have e1 : shN R h - i = k := by omega
    rw [e1] at hP hD
    refine lv_aload_n hx hb dX5_insert_36 rfl (lv_at hl 1 rfl) ?_
    refine lv_iload_n hx hb dX5_insert_37 rfl (lv_at hl 2 rfl) ?_
    refine lv_iload_n hx hb dX5_insert_38 rfl (lv_at hl 3 rfl) ?_
    refine lv_iload_n hx hb dX5_insert_39 rfl (lv_at hl 4 rfl) ?_
    refine rw_V (As := [Value.int (iI (h : Int)), Value.int (iI (k : Int)), Value.int (iI z)]) (rest := []) ⟨hx, hb, hml, hown, hts⟩ (c_X5_put l g τ ad (u2 R 19 (shr (R 19) (h * 6 + k) (h * 6 + shN R h))) h k (by omega) (by omega) z) gX5_insert_X5_put cd_X5_put rfl rfl ⟨rfl, rfl⟩ ⟨Nat.le_of_ble_eq_true rfl, Nat.le_of_ble_eq_true rfl⟩ hK hP hD hS [0, 1, 2] rfl (by decide) 0 rfl rfl rfl rfl hl rfl (Nat.le_of_ble_eq_true rfl) dX5_insert_40 ⟨Nat.le_of_ble_eq_true rfl, Nat.le_of_ble_eq_true rfl⟩ (fun v w h => by rw [h.2]; rfl) (fun v w1 H locs hZ hP hD hS => ?_)
    obtain ⟨rfl, rfl⟩ := hZ
    have hP : va_P g vwCl (shW ad (u2 (u2 R 19 (shr (R 19) (h * 6 + k) (h * 6 + shN R h))) 19 (updZ (shr (R 19) (h * 6 + k) (h * 6 + shN R h)) (h * 6 + k) z)) τ) H := hP
    have hD : va_D A (shW ad (u2 (u2 R 19 (shr (R 19) (h * 6 + k) (h * 6 + shN R h))) 19 (updZ (shr (R 19) (h * 6 + k) (h * 6 + shN R h)) (h * 6 + k) z)) τ) := hD
    refine tl_none ?_
    refine lv_aload_n hx hb dX5_insert_43 rfl (lv_at hl 1 rfl) ?_
    refine va_get (D := g) (ci := 5) (v := Value.ref (ad 18)) (C := RX5) (T := TX5) (N := 2) hx hb hts in_X5_insert_X5 hown hK.1 hP 0 (rfl) rfl 0 (by decide) (hts _ (List.mem_of_getElem? (i := 1) rfl) : (Cond.fieldLink RX5 9 "CordSeals$Shelves" "count" "[I").before _ s = true) (fun _ h9 => h9) rfl dX5_insert_44 ?_
    refine lv_iload_n hx hb dX5_insert_47 rfl (lv_at hl 2 rfl) ?_
    refine lv_dup2_11 hx hb dX5_insert_48 rfl rfl ?_
    refine zi_ald hx hb hK hP 1 (f := (R 18)) (rfl) (h) (rfl) (by omega) (by decide) dX5_insert_49 ?_
    have hb_4 := hB 18 h
    refine lv_iconst (v := iI 1) hx hb dX5_insert_50 (by decide) ?_
    refine zi_add hx hb dX5_insert_51 ?_
    refine zi_ast hx hb hK hP hD hS 1 (f := (R 18)) (rfl) (h) (rfl) (by omega) (by decide) dX5_insert_52 (wo := shW ad (u2 (u2 (u2 R 19 (shr (R 19) (h * 6 + k) (h * 6 + shN R h))) 19 (updZ (shr (R 19) (h * 6 + k) (h * 6 + shN R h)) (h * 6 + k) z)) 18 (updZ (R 18) h ((R 18 h) + 1))) τ) rfl (fun H locs hP hD hS => ?_)
    exact rw_vret hx hb hr hlocks hP hS (⟨rfl, by rw [inR]; rfl⟩) dX5_insert_53
  · have _ := c_3
    have hl_i : i < shN R h - k := by omega
    refine lv_aload_n hx hb dX5_insert_14 rfl (lv_at hl 1 rfl) ?_
    refine lv_iload_n hx hb dX5_insert_15 rfl (lv_at hl 2 rfl) ?_
    refine lv_iload hx hb dX5_insert_16 (lv_at hl 0 rfl) ?_
    refine lv_aload_n hx hb dX5_insert_18 rfl (lv_at hl 1 rfl) ?_
    refine lv_iload_n hx hb dX5_insert_19 rfl (lv_at hl 2 rfl) ?_
    refine lv_iload hx hb dX5_insert_20 (lv_at hl 0 rfl) ?_
    refine lv_iconst (v := iI 1) hx hb dX5_insert_22 (by decide) ?_
    refine zi_sub hx hb dX5_insert_23 ?_
    refine cv_i (y := iI ((shN R h - i - 1 : Nat) : Int)) (congrArg iI (by omega)) ?_
    refine ro_V (As := [Value.int (iI (h : Int)), Value.int (iI ((shN R h - i - 1 : Nat) : Int))]) (rest := [Value.int (iI ((shN R h - i : Nat) : Int)), Value.int (iI (h : Int)), Value.ref (ad 17)]) (v := some (Value.int (iI ((shr (R 19) (h * 6 + (shN R h - i)) (h * 6 + shN R h)) (h * 6 + (shN R h - i - 1)))))) ⟨hx, hb, hml, hown, hts⟩ (c_X5_at l g τ ad (u2 R 19 (shr (R 19) (h * 6 + (shN R h - i)) (h * 6 + shN R h))) h (shN R h - i - 1) (by omega) (by omega)) gX5_insert_X5_at cd_X5_at rfl rfl ⟨rfl, rfl⟩ ⟨Nat.le_of_ble_eq_true rfl, Nat.le_of_ble_eq_true rfl⟩ hK hP 0 rfl rfl rfl rfl hl rfl (Nat.le_of_ble_eq_true rfl) dX5_insert_24 ⟨Nat.le_of_ble_eq_true rfl, Nat.le_of_ble_eq_true rfl⟩ ?_
    refine tl_some ?_
    refine rw_V (As := [Value.int (iI (h : Int)), Value.int (iI ((shN R h - i : Nat) : Int)), Value.int (iI ((shr (R 19) (h * 6 + (shN R h - i)) (h * 6 + shN R h)) (h * 6 + (shN R h - i - 1))))]) (rest := []) ⟨hx, hb, hml, hown, hts⟩ (c_X5_put l g τ ad (u2 R 19 (shr (R 19) (h * 6 + (shN R h - i)) (h * 6 + shN R h))) h (shN R h - i) (by omega) (by omega) ((shr (R 19) (h * 6 + (shN R h - i)) (h * 6 + shN R h)) (h * 6 + (shN R h - i - 1)))) gX5_insert_X5_put cd_X5_put rfl rfl ⟨rfl, rfl⟩ ⟨Nat.le_of_ble_eq_true rfl, Nat.le_of_ble_eq_true rfl⟩ hK hP hD hS [0, 1, 2] rfl (by decide) 0 rfl rfl rfl rfl hl rfl (Nat.le_of_ble_eq_true rfl) dX5_insert_27 ⟨Nat.le_of_ble_eq_true rfl, Nat.le_of_ble_eq_true rfl⟩ (fun v w h => by rw [h.2]; rfl) (fun v w1 H locs hZ hP hD hS => ?_)
    obtain ⟨rfl, rfl⟩ := hZ
    have hP : va_P g vwCl (shW ad (u2 (u2 R 19 (shr (R 19) (h * 6 + (shN R h - i)) (h * 6 + shN R h))) 19 (updZ (shr (R 19) (h * 6 + (shN R h - i)) (h * 6 + shN R h)) (h * 6 + (shN R h - i)) ((shr (R 19) (h * 6 + (shN R h - i)) (h * 6 + shN R h)) (h * 6 + (shN R h - i - 1))))) τ) H := hP
    have hD : va_D A (shW ad (u2 (u2 R 19 (shr (R 19) (h * 6 + (shN R h - i)) (h * 6 + shN R h))) 19 (updZ (shr (R 19) (h * 6 + (shN R h - i)) (h * 6 + shN R h)) (h * 6 + (shN R h - i)) ((shr (R 19) (h * 6 + (shN R h - i)) (h * 6 + shN R h)) (h * 6 + (shN R h - i - 1))))) τ) := hD
    refine tl_none ?_
    refine zi_inc (v := ((shN R h - (i + 1) : Nat) : Int)) (lv' := [(4, Value.int (iI ((shN R h - (i + 1) : Nat) : Int))), (0, Value.ref (ad 17)), (1, Value.int (iI (h : Int))), (2, Value.int (iI (k : Int))), (3, Value.int (iI z))]) hx hb dX5_insert_30 hl (k := 0) rfl (by omega) (by decide) rfl (fun ls hl => ?_)
    refine lv_goto (tgt := 8) hx hb dX5_insert_33 (by decide) ?_
    have hw_5 : shW ad (u2 (u2 R 19 (shr (R 19) (h * 6 + (shN R h - i)) (h * 6 + shN R h))) 19 (updZ (shr (R 19) (h * 6 + (shN R h - i)) (h * 6 + shN R h)) (h * 6 + (shN R h - i)) ((shr (R 19) (h * 6 + (shN R h - i)) (h * 6 + shN R h)) (h * 6 + (shN R h - i - 1))))) τ = shW ad (u2 R 19 (shr (R 19) (h * 6 + (shN R h - (i + 1))) (h * 6 + shN R h))) τ := by rw [show h * 6 + (shN R h - i - 1) = h * 6 + (shN R h - i) - 1 from by omega, show h * 6 + (shN R h - (i + 1)) = h * 6 + (shN R h - i) - 1 from by omega, ← shr_s (by omega) (by omega)]; rfl
    rw [hw_5] at hP hD
    exact ih_8 hl_i (trivial) _ _ _ hP hD hS (lv_eq (lv_sub hl [0, 1, 2, 3, 4] rfl) (by show [(4, Value.int (iI ((shN R h - (i + 1) : Nat) : Int))), (0, Value.ref (ad 17)), (1, Value.int (iI (h : Int))), (2, Value.int (iI (k : Int))), (3, Value.int (iI z))] = [(4, Value.int (iI ((shN R h - (i + 1) : Nat) : Int))), (0, Value.ref (ad 17)), (1, Value.int (iI (h : Int))), (2, Value.int (iI (k : Int))), (3, Value.int (iI z))]; rfl))
