theorem rw_mono {l : Launch} {y : MethodName} {ws : List Cond} {rm : Room} {g : va_G} {Pc : Array Value → State → Prop} {Z Z2 : Option Value → va_W → Prop} {A : Nat → Prop} {mc ms : Nat} {free : Addr → Prop} (h : Met l y ws rm Pc (rwQ g Z A) mc ms free) (hz : ∀ v w, Z v w → Z2 v w) : Met l y ws rm Pc (rwQ g Z2 A) mc ms free := by
  unfold Met at h ⊢
  refine MetFree.mono h (fun _ _ q => q) (fun _ _ _ _ _ q => q) (fun a s o t _ q => ⟨?_, q.2⟩)
  obtain ⟨v, w, h1, h2⟩ := q.1
  exact ⟨v, w, hz v w h1, h2⟩
theorem e_X10_goSort (l : Launch) (g : va_G) (τ : Nat → ClassId) (ma : Nat → Nat) (M : Nat → Int) (fa : Nat) (R : Nat → Nat → Int) (hI : SI R) (h1 : Nat) (hh : h1 < 6) (P0 : Nat → Int) : Met l yX10_goSort wsX10_goSort { frames := 8, cells := 0, slots := 0, locals := 188 } (va_Pc [Value.ref (ma 0), Value.ref fa, Value.int (iI (h1 : Int))] (rwW g τ ([moO ma M, arC fa (τ 0) 291 (flR R), arC (ma 17) (τ 0) 6 P0]))) (rwQ g (fun v w => v = some (Value.int (iI (oN R h1 (R 18 h1).toNat))) ∧ ∃ M2 P2, AG M M2 ∧ w = [moO ma M2, arC fa (τ 0) 291 (flR (sR R h1)), arC (ma 17) (τ 0) 6 P2]) (inW ([moO ma M, arC fa (τ 0) 291 (flR R), arC (ma 17) (τ 0) 6 P0]))) 0 0 (inW ([moO ma M, arC fa (τ 0) 291 (flR R), arC (ma 17) (τ 0) 6 P0])) := by
  have h := c_X10_goSort l g τ ma M fa R hI h1 hh P0
  have e : (fun (v : Option Value) (w : va_W) => v = some (Value.int (iI (oN R h1 (R 18 h1).toNat))) ∧ ∃ M2, AG M M2 ∧ w = [moO ma M2, arC fa (τ 0) 291 (flR (oR R h1 P0)), arC (ma 17) (τ 0) 6 (oPl R h1 P0 (R 18 h1).toNat)]) = fun v w => v = some (Value.int (iI (oN R h1 (R 18 h1).toNat))) ∧ ∃ M2, AG M M2 ∧ w = [moO ma M2, arC fa (τ 0) 291 (flR (sR R h1)), arC (ma 17) (τ 0) 6 (oPl R h1 P0 (R 18 h1).toNat)] := by rw [oR_eq]
  rw [e] at h
  exact rw_mono h (fun v w ⟨h1, M2, h2, h3⟩ => ⟨h1, M2, _, h2, h3⟩)

theorem cd_X10_sort : cd yX10_sort 1 := by decide +kernel
theorem in_X10_sort_X10 : ∀ w ∈ wsX100, w ∈ wsX10_sort := by decide +kernel
set_option maxHeartbeats 2000000 in
set_option maxRecDepth 100000 in
theorem c_X10_sort (l : Launch) (g : va_G) (τ : Nat → ClassId) (ma : Nat → Nat) (M : Nat → Int) (R : Nat → Nat → Int) (hI : SI R) (z1 : Int) (rz1 : -2147483648 ≤ z1 ∧ z1 < 2147483648) (B : Nat → Nat → Nat → Int) (hn5 : 0 ≤ M 5 ∧ M 5 ≤ 14) (P0 : Nat → Int)  : Met l yX10_sort wsX10_sort { frames := 9, cells := 0, slots := 0, locals := 217 } (va_Pc [Value.ref (ma 0), Value.int (iI z1)] (rwW g τ ([moO ma M, arC (ma 1) (τ 0) 291 (flR R), arC (ma 4) (τ 0) 4074 (bkF B), arC (ma 17) (τ 0) 6 P0]))) (rwQ g (fun v w => ∃ (M2 P2 : Nat → Int), M2 9 = M 9 ∧ ((¬ (0 ≤ z1 ∧ z1 ≤ 5) ∧ v = some (Value.int (iI 0)) ∧ M2 0 = 1 ∧ M2 5 = M 5 ∧ w = [moO ma M2, arC (ma 1) (τ 0) 291 (flR R), arC (ma 4) (τ 0) 4074 (bkF B), arC (ma 17) (τ 0) 6 P2]) ∨ ((0 ≤ z1 ∧ z1 ≤ 5) ∧ v = some (Value.int (iI (oN R z1.toNat (R 18 z1.toNat).toNat))) ∧ M2 0 = 0 ∧ M2 5 = (rmB (M 5) B R).1 ∧ w = [moO ma M2, arC (ma 1) (τ 0) 291 (flR (sR R z1.toNat)), arC (ma 4) (τ 0) 4074 (bkF (rmB (M 5) B R).2), arC (ma 17) (τ 0) 6 P2]))) (inW ([moO ma M, arC (ma 1) (τ 0) 291 (flR R), arC (ma 4) (τ 0) 4074 (bkF B), arC (ma 17) (τ 0) 6 P0]))) 0 0 (inW ([moO ma M, arC (ma 1) (τ 0) 291 (flR R), arC (ma 4) (τ 0) 4074 (bkF B), arC (ma 17) (τ 0) 6 P0])) := by
  have hB := hI.hB
  have hr0 := hI.r
  have hd0 := hI.d
  have hs0 := hI.s
  refine rwMet (cc := cX10_sort) (maxL := 2) (ret := (some .int)) (lv := [(0, Value.ref (ma 0)), (1, Value.int (iI z1))]) (by decide) rfl (Nat.le_of_ble_eq_true rfl) rfl ?_
  intro p e s m below meth c hx hb hr hml hts hown hlocks A H hP hD hS hK ls hl
  refine lv_aload_n hx hb dX10_sort_0 rfl (lv_at hl 0 rfl) ?_
  refine lv_iload_n hx hb dX10_sort_1 rfl (lv_at hl 1 rfl) ?_
  refine ro_S (As := [Value.int (iI z1)]) (rest := [Value.ref (ma 0)]) (v := some (Value.int (iI (zB (decide (0 ≤ z1 ∧ z1 ≤ 5)))))) ⟨hx, hb, hml, hown, hts⟩ (c_X10_isShelf l g τ z1 ⟨by omega, by omega⟩) gX10_sort_X10_isShelf cd_X10_isShelf rfl ⟨rfl, rfl⟩ ⟨Nat.le_of_ble_eq_true rfl, Nat.le_of_ble_eq_true rfl⟩ hK (fun _ _ h => by cases h) rfl hl rfl (Nat.le_of_ble_eq_true rfl) dX10_sort_2 ⟨Nat.le_of_ble_eq_true rfl, Nat.le_of_ble_eq_true rfl⟩ ?_
  refine tl_some ?_
  refine zb_if_eq (tgt := 12) hx hb dX10_sort_5 (by decide) (fun c_1 => ?_) (fun c_1 => ?_)
  · have cd_c_1 := of_decide_eq_false c_1
    refine lv_iconst (v := iI 1) hx hb dX10_sort_12 (by decide) ?_
    refine rw_V (As := [Value.int (iI 1)]) (rest := []) ⟨hx, hb, hml, hown, hts⟩ (c_X10_refused l g τ ma M 1 ⟨by decide, by decide⟩) gX10_sort_X10_refused cd_X10_refused rfl rfl ⟨rfl, rfl⟩ ⟨Nat.le_of_ble_eq_true rfl, Nat.le_of_ble_eq_true rfl⟩ hK hP hD hS [0] (rfl) (by decide) 0 rfl rfl rfl rfl hl rfl (Nat.le_of_ble_eq_true rfl) dX10_sort_13 ⟨Nat.le_of_ble_eq_true rfl, Nat.le_of_ble_eq_true rfl⟩ (fun v w h => by rw [h.2]; rfl) (fun v w1 H locs hZ hP hD hS => ?_)
    obtain ⟨rfl, rfl⟩ := hZ
    have hP : va_P g vwCl ([moO ma (updZ M 0 1), arC (ma 1) (τ 0) 291 (flR R), arC (ma 4) (τ 0) 4074 (bkF B), arC (ma 17) (τ 0) 6 P0]) H := hP
    have hD : va_D A ([moO ma (updZ M 0 1), arC (ma 1) (τ 0) 291 (flR R), arC (ma 4) (τ 0) 4074 (bkF B), arC (ma 17) (τ 0) 6 P0]) := hD
    refine tl_some ?_
    refine cv_i (y := iI 1) (congrArg iI (if_neg (by decide))) ?_
    refine zi_if_eq (tgt := 21) hx hb ⟨by decide, by decide⟩ dX10_sort_16 (by decide) (fun c_2 => ?_) (fun c_2 => ?_)
    · exact absurd c_2 (by decide)
    refine lv_iconst (v := iI 0) hx hb dX10_sort_19 (by decide) ?_
    exact rw_iret hx hb hr hlocks hP hS (⟨(updZ M 0 1), P0, by show (M 9) = M 9; first | rfl | omega, Or.inl ⟨by omega, rfl, rfl, rfl, rfl⟩⟩) dX10_sort_20
  · have cd_c_1 := of_decide_eq_true c_1
    refine lv_iconst (v := iI 0) hx hb dX10_sort_8 (by decide) ?_
    refine lv_goto (tgt := 13) hx hb dX10_sort_9 (by decide) ?_
    refine rw_V (As := [Value.int (iI 0)]) (rest := []) ⟨hx, hb, hml, hown, hts⟩ (c_X10_refused l g τ ma M 0 ⟨by decide, by decide⟩) gX10_sort_X10_refused cd_X10_refused rfl rfl ⟨rfl, rfl⟩ ⟨Nat.le_of_ble_eq_true rfl, Nat.le_of_ble_eq_true rfl⟩ hK hP hD hS [0] (rfl) (by decide) 0 rfl rfl rfl rfl hl rfl (Nat.le_of_ble_eq_true rfl) dX10_sort_13 ⟨Nat.le_of_ble_eq_true rfl, Nat.le_of_ble_eq_true rfl⟩ (fun v w h => by rw [h.2]; rfl) (fun v w1 H locs hZ hP hD hS => ?_)
    obtain ⟨rfl, rfl⟩ := hZ
    have hP : va_P g vwCl ([moO ma (updZ M 0 0), arC (ma 1) (τ 0) 291 (flR R), arC (ma 4) (τ 0) 4074 (bkF B), arC (ma 17) (τ 0) 6 P0]) H := hP
    have hD : va_D A ([moO ma (updZ M 0 0), arC (ma 1) (τ 0) 291 (flR R), arC (ma 4) (τ 0) 4074 (bkF B), arC (ma 17) (τ 0) 6 P0]) := hD
    refine tl_some ?_
    refine cv_i (y := iI 0) (congrArg iI (if_pos rfl)) ?_
    refine zi_if_eq (tgt := 21) hx hb ⟨by decide, by decide⟩ dX10_sort_16 (by decide) (fun c_3 => ?_) (fun c_3 => ?_)
    · skip
      obtain ⟨h1, rfl⟩ := Int.eq_ofNat_of_zero_le (show 0 ≤ z1 by omega)
      refine lv_aload_n hx hb dX10_sort_21 rfl (lv_at hl 0 rfl) ?_
      refine rw_V (As := []) (rest := []) ⟨hx, hb, hml, hown, hts⟩ (c_X10_remember l g τ ma (updZ M 0 0) R hI B (by show 0 ≤ M 5 ∧ M 5 ≤ 14; omega)) gX10_sort_X10_remember cd_X10_remember rfl rfl ⟨rfl, rfl⟩ ⟨Nat.le_of_ble_eq_true rfl, Nat.le_of_ble_eq_true rfl⟩ hK hP hD hS [0, 1, 2] (rfl) (by decide) 0 rfl rfl rfl rfl hl rfl (Nat.le_of_ble_eq_true rfl) dX10_sort_22 ⟨Nat.le_of_ble_eq_true rfl, Nat.le_of_ble_eq_true rfl⟩ (fun v w h => by obtain ⟨-, M9, -, -, -, rfl⟩ := h; rfl) (fun v w1 H locs hZ hP hD hS => ?_)
      obtain ⟨rfl, M_4, hfM_4_0, hfM_4_5, hfM_4_9, rfl⟩ := hZ
      have hP : va_P g vwCl ([moO ma M_4, arC (ma 1) (τ 0) 291 (flR R), arC (ma 4) (τ 0) 4074 (bkF (rmB (M 5) B R).2), arC (ma 17) (τ 0) 6 P0]) H := hP
      have hD : va_D A ([moO ma M_4, arC (ma 1) (τ 0) 291 (flR R), arC (ma 4) (τ 0) 4074 (bkF (rmB (M 5) B R).2), arC (ma 17) (τ 0) 6 P0]) := hD
      have hfM_4_0 : M_4 0 = 0 := hfM_4_0
      have hfM_4_5 : M_4 5 = (rmB (M 5) B R).1 := hfM_4_5
      have hfM_4_9 : M_4 9 = M 9 := hfM_4_9
      refine tl_none ?_
      refine lv_aload_n hx hb dX10_sort_25 rfl (lv_at hl 0 rfl) ?_
      refine lv_aload_n hx hb dX10_sort_26 rfl (lv_at hl 0 rfl) ?_
      refine va_get (D := g) (ci := 10) (v := Value.ref (ma 1)) (C := RX10) (T := TX10) (N := 18) hx hb hts in_X10_sort_X10 hown hK.1 hP 0 (rfl) rfl 1 (by decide) (hts _ (List.mem_of_getElem? (i := 1) rfl) : (Cond.fieldLink RX10 7 "CordSealsModel" "now" "[I").before _ s = true) (fun _ h9 => h9) rfl dX10_sort_27 ?_
      refine lv_iload_n hx hb dX10_sort_30 rfl (lv_at hl 1 rfl) ?_
      refine rw_V (As := [Value.ref (ma 1), Value.int (iI (h1 : Int))]) (rest := []) ⟨hx, hb, hml, hown, hts⟩ (e_X10_goSort l g τ ma M_4 (ma 1) R hI h1 (by omega) P0) gX10_sort_X10_goSort cd_X10_goSort rfl rfl ⟨rfl, rfl⟩ ⟨Nat.le_of_ble_eq_true rfl, Nat.le_of_ble_eq_true rfl⟩ hK hP hD hS [0, 1, 3] (rfl) (by decide) 0 rfl rfl rfl rfl hl rfl (Nat.le_of_ble_eq_true rfl) dX10_sort_31 ⟨Nat.le_of_ble_eq_true rfl, Nat.le_of_ble_eq_true rfl⟩ (fun v w h => by obtain ⟨-, M9, P9, -, rfl⟩ := h; rfl) (fun v w1 H locs hZ hP hD hS => ?_)
      obtain ⟨rfl, M_5, P_M_5, hgM_5, rfl⟩ := hZ
      have hP : va_P g vwCl ([moO ma M_5, arC (ma 1) (τ 0) 291 (flR (sR R h1)), arC (ma 4) (τ 0) 4074 (bkF (rmB (M 5) B R).2), arC (ma 17) (τ 0) 6 P_M_5]) H := hP
      have hD : va_D A ([moO ma M_5, arC (ma 1) (τ 0) 291 (flR (sR R h1)), arC (ma 4) (τ 0) 4074 (bkF (rmB (M 5) B R).2), arC (ma 17) (τ 0) 6 P_M_5]) := hD
      have hfM_5_0 : M_5 0 = M_4 0 := hgM_5 0 (by decide)
      have hfM_5_5 : M_5 5 = M_4 5 := hgM_5 5 (by decide)
      have hfM_5_9 : M_5 9 = M_4 9 := hgM_5 9 (by decide)
      have hon9 := cnt_le (fun k => decide (¬ oAh R h1 k (R 18 h1).toNat = (k : Int))) (R 18 h1).toNat
      have hon8 : oN R h1 (R 18 h1).toNat = cnt (fun k => decide (¬ oAh R h1 k (R 18 h1).toNat = (k : Int))) (R 18 h1).toNat := rfl
      refine tl_some ?_
      exact rw_iret hx hb hr hlocks hP hS (⟨M_5, _, by show (M_5 9) = M 9; first | rfl | omega, Or.inr ⟨⟨by omega, by omega⟩, rfl, by show (M_5 0) = 0; omega, by show (M_5 5) = _; omega, rfl⟩⟩) dX10_sort_34
    · exact absurd c_3 (by decide)

theorem cd_X10_runSort : cd yX10_runSort 1 := by decide +kernel
theorem in_X10_runSort_X10 : ∀ w ∈ wsX100, w ∈ wsX10_runSort := by decide +kernel
set_option maxHeartbeats 2000000 in
set_option maxRecDepth 100000 in
theorem c_X10_runSort (l : Launch) (g : va_G) (τ : Nat → ClassId) (ma : Nat → Nat) (M : Nat → Int) (R : Nat → Nat → Int) (hI : SI R) (P0 : Nat → Int) (z1 : Int) (rz1 : -2147483648 ≤ z1 ∧ z1 < 2147483648)  : Met l yX10_runSort wsX10_runSort { frames := 9, cells := 0, slots := 0, locals := 217 } (va_Pc [Value.ref (ma 0), Value.int (iI z1)] (rwW g τ ([moO ma M, arC (ma 2) (τ 0) 291 (flR R), arC (ma 17) (τ 0) 6 P0]))) (rwQ g (fun v w => v = some (Value.int (iI (zB (decide (0 ≤ z1 ∧ z1 ≤ 5))))) ∧ ∃ M2 P2, AG M M2 ∧ w = [moO ma M2, arC (ma 2) (τ 0) 291 (flR (rsR R z1)), arC (ma 17) (τ 0) 6 P2]) (inW ([moO ma M, arC (ma 2) (τ 0) 291 (flR R), arC (ma 17) (τ 0) 6 P0]))) 0 0 (inW ([moO ma M, arC (ma 2) (τ 0) 291 (flR R), arC (ma 17) (τ 0) 6 P0])) := by
  have hB := hI.hB
  have hr0 := hI.r
  have hd0 := hI.d
  have hs0 := hI.s
  refine rwMet (cc := cX10_runSort) (maxL := 2) (ret := (some .boolean)) (lv := [(0, Value.ref (ma 0)), (1, Value.int (iI z1))]) (by decide) rfl (Nat.le_of_ble_eq_true rfl) rfl ?_
  intro p e s m below meth c hx hb hr hml hts hown hlocks A H hP hD hS hK ls hl
  refine lv_iload_n hx hb dX10_runSort_0 rfl (lv_at hl 1 rfl) ?_
  refine ro_S (As := [Value.int (iI z1)]) (rest := []) (v := some (Value.int (iI (zB (decide (0 ≤ z1 ∧ z1 ≤ 5)))))) ⟨hx, hb, hml, hown, hts⟩ (c_X10_isShelf l g τ z1 ⟨by omega, by omega⟩) gX10_runSort_X10_isShelf cd_X10_isShelf rfl ⟨rfl, rfl⟩ ⟨Nat.le_of_ble_eq_true rfl, Nat.le_of_ble_eq_true rfl⟩ hK (fun _ _ h => by cases h) rfl hl rfl (Nat.le_of_ble_eq_true rfl) dX10_runSort_1 ⟨Nat.le_of_ble_eq_true rfl, Nat.le_of_ble_eq_true rfl⟩ ?_
  refine tl_some ?_
  refine zb_if_eq (tgt := 23) hx hb dX10_runSort_4 (by decide) (fun c_1 => ?_) (fun c_1 => ?_)
  · have cd_c_1 := of_decide_eq_false c_1
    refine lv_iconst (v := iI 0) hx hb dX10_runSort_23 (by decide) ?_
    exact rw_zret hx hb hr hlocks hP hS (by first | exact ⟨⟨by rw [decide_eq_false (by omega)]; rfl, _, _, (AG_r _), by rw [rsR, if_neg (by omega)]⟩, ⟨false, rfl⟩⟩ | exact ⟨⟨by rw [decide_eq_true (by omega)]; rfl, _, _, (AG_r _), by rw [rsR, if_pos ⟨by omega, by omega⟩]; rfl⟩, ⟨true, rfl⟩⟩ | (exfalso; omega)) dX10_runSort_24
  · have cd_c_1 := of_decide_eq_true c_1
    obtain ⟨h1, rfl⟩ := Int.eq_ofNat_of_zero_le (show 0 ≤ z1 by omega)
    have hnn9 := hI.hN h1 (by omega)
    refine lv_aload_n hx hb dX10_runSort_7 rfl (lv_at hl 0 rfl) ?_
    refine lv_aload_n hx hb dX10_runSort_8 rfl (lv_at hl 0 rfl) ?_
    refine va_get (D := g) (ci := 10) (v := Value.ref (ma 2)) (C := RX10) (T := TX10) (N := 18) hx hb hts in_X10_runSort_X10 hown hK.1 hP 0 (rfl) rfl 2 (by decide) (hts _ (List.mem_of_getElem? (i := 1) rfl) : (Cond.fieldLink RX10 13 "CordSealsModel" "trial" "[I").before _ s = true) (fun _ h9 => h9) rfl dX10_runSort_9 ?_
    refine lv_iload_n hx hb dX10_runSort_12 rfl (lv_at hl 1 rfl) ?_
    refine rw_V (As := [Value.ref (ma 2), Value.int (iI (h1 : Int))]) (rest := []) ⟨hx, hb, hml, hown, hts⟩ (e_X10_goSort l g τ ma M (ma 2) R hI h1 (by omega) P0) gX10_runSort_X10_goSort cd_X10_goSort rfl rfl ⟨rfl, rfl⟩ ⟨Nat.le_of_ble_eq_true rfl, Nat.le_of_ble_eq_true rfl⟩ hK hP hD hS [0, 1, 2] (rfl) (by decide) 0 rfl rfl rfl rfl hl rfl (Nat.le_of_ble_eq_true rfl) dX10_runSort_13 ⟨Nat.le_of_ble_eq_true rfl, Nat.le_of_ble_eq_true rfl⟩ (fun v w h => by obtain ⟨-, M9, P9, -, rfl⟩ := h; rfl) (fun v w1 H locs hZ hP hD hS => ?_)
    obtain ⟨rfl, M_2, P_M_2, hgM_2, rfl⟩ := hZ
    have hP : va_P g vwCl ([moO ma M_2, arC (ma 2) (τ 0) 291 (flR (sR R h1)), arC (ma 17) (τ 0) 6 P_M_2]) H := hP
    have hD : va_D A ([moO ma M_2, arC (ma 2) (τ 0) 291 (flR (sR R h1)), arC (ma 17) (τ 0) 6 P_M_2]) := hD
    have hfM_2_0 : M_2 0 = M 0 := hgM_2 0 (by decide)
    have hfM_2_5 : M_2 5 = M 5 := hgM_2 5 (by decide)
    have hfM_2_9 : M_2 9 = M 9 := hgM_2 9 (by decide)
    have hon9 := cnt_le (fun k => decide (¬ oAh R h1 k (R 18 h1).toNat = (k : Int))) (R 18 h1).toNat
    have hon8 : oN R h1 (R 18 h1).toNat = cnt (fun k => decide (¬ oAh R h1 k (R 18 h1).toNat = (k : Int))) (R 18 h1).toNat := rfl
    refine tl_some ?_
    refine zi_if_lt (tgt := 23) hx hb ⟨by omega, by omega⟩ dX10_runSort_16 (by decide) (fun c_3 => ?_) (fun c_3 => ?_)
    · have _ := c_3
      refine lv_iconst (v := iI 0) hx hb dX10_runSort_23 (by decide) ?_
      exact rw_zret hx hb hr hlocks hP hS (by first | exact ⟨⟨by rw [decide_eq_false (by omega)]; rfl, _, _, (AG_t (AG_r _) hgM_2), by rw [rsR, if_neg (by omega)]⟩, ⟨false, rfl⟩⟩ | exact ⟨⟨by rw [decide_eq_true (by omega)]; rfl, _, _, (AG_t (AG_r _) hgM_2), by rw [rsR, if_pos ⟨by omega, by omega⟩]; rfl⟩, ⟨true, rfl⟩⟩ | (exfalso; omega)) dX10_runSort_24
    · have _ := c_3
      refine lv_iconst (v := iI 1) hx hb dX10_runSort_19 (by decide) ?_
      refine lv_goto (tgt := 24) hx hb dX10_runSort_20 (by decide) ?_
      exact rw_zret hx hb hr hlocks hP hS (by first | exact ⟨⟨by rw [decide_eq_false (by omega)]; rfl, _, _, (AG_t (AG_r _) hgM_2), by rw [rsR, if_neg (by omega)]⟩, ⟨false, rfl⟩⟩ | exact ⟨⟨by rw [decide_eq_true (by omega)]; rfl, _, _, (AG_t (AG_r _) hgM_2), by rw [rsR, if_pos ⟨by omega, by omega⟩]; rfl⟩, ⟨true, rfl⟩⟩ | (exfalso; omega)) dX10_runSort_24

theorem cd_X10_command : cd yX10_command 1 := by decide +kernel
theorem in_X10_command_X10 : ∀ w ∈ wsX100, w ∈ wsX10_command := by decide +kernel
set_option maxHeartbeats 8000000 in
set_option maxRecDepth 100000 in
theorem c_X10_command (l : Launch) (g : va_G) (τ : Nat → ClassId) (ma : Nat → Nat) (M : Nat → Int) (R : Nat → Nat → Int) (hI : SI R) (P0 : Nat → Int) (g1 : Int) (hg1 : 0 ≤ g1 ∧ g1 < 1000000)  : Met l yX10_command wsX10_command { frames := 10, cells := 0, slots := 0, locals := 238 } (va_Pc [Value.ref (ma 0), Value.int (iI g1)] (rwW g τ ([moO ma M, arC (ma 2) (τ 0) 291 (flR R), arC (ma 17) (τ 0) 6 P0]))) (rwQ g (fun v w => v = some (Value.int (iI (zB (qCmd R g1).1))) ∧ ∃ M2 P2, AG M M2 ∧ w = [moO ma M2, arC (ma 2) (τ 0) 291 (flR (qCmd R g1).2), arC (ma 17) (τ 0) 6 P2]) (inW ([moO ma M, arC (ma 2) (τ 0) 291 (flR R), arC (ma 17) (τ 0) 6 P0]))) 0 0 (inW ([moO ma M, arC (ma 2) (τ 0) 291 (flR R), arC (ma 17) (τ 0) 6 P0])) := by
  have hB := hI.hB
  have hr0 := hI.r
  have hd0 := hI.d
  have hs0 := hI.s
  refine rwMet (cc := cX10_command) (maxL := 7) (ret := (some .boolean)) (lv := [(0, Value.ref (ma 0)), (1, Value.int (iI g1))]) (by decide) rfl (Nat.le_of_ble_eq_true rfl) rfl ?_
  intro p e s m below meth c hx hb hr hml hts hown hlocks A H hP hD hS hK ls hl
  refine lv_iload_n hx hb dX10_command_0 rfl (lv_at hl 1 rfl) ?_
  refine lv_sipush (v := iI 10000) hx hb dX10_command_1 (by decide) ?_
  refine zi_div hx hb ⟨by omega, by omega⟩ ⟨by decide, by decide⟩ dX10_command_4 ?_
  refine lv_bipush (v := iI 10) hx hb dX10_command_5 (by decide) ?_
  refine zi_rem hx hb ⟨by omega, by omega⟩ ⟨by decide, by decide⟩ dX10_command_7 ?_
  refine lv_istore_n (lv' := [(2, Value.int (iI ((g1 / 10000) % 10))), (0, Value.ref (ma 0)), (1, Value.int (iI g1))]) hx hb dX10_command_8 rfl hl (by decide) rfl (fun ls hl => ?_)
  refine lv_iload_n hx hb dX10_command_9 rfl (lv_at hl 2 rfl) ?_
  refine lv_sipush (v := iI 1000) hx hb dX10_command_10 (by decide) ?_
  refine zi_div hx hb ⟨by omega, by omega⟩ ⟨by decide, by decide⟩ dX10_command_13 ?_
  refine lv_bipush (v := iI 100) hx hb dX10_command_14 (by decide) ?_
  refine zi_rem hx hb ⟨by omega, by omega⟩ ⟨by decide, by decide⟩ dX10_command_16 ?_
  refine lv_istore_n (lv' := [(3, Value.int (iI ((g1 / 1000) % 100))), (2, Value.int (iI ((g1 / 10000) % 10))), (0, Value.ref (ma 0)), (1, Value.int (iI g1))]) hx hb dX10_command_17 rfl hl (by decide) rfl (fun ls hl => ?_)
  refine lv_iload_n hx hb dX10_command_18 rfl (lv_at hl 3 rfl) ?_
  refine lv_bipush (v := iI 100) hx hb dX10_command_19 (by decide) ?_
  refine zi_div hx hb ⟨by omega, by omega⟩ ⟨by decide, by decide⟩ dX10_command_21 ?_
  refine lv_bipush (v := iI 10) hx hb dX10_command_22 (by decide) ?_
  refine zi_rem hx hb ⟨by omega, by omega⟩ ⟨by decide, by decide⟩ dX10_command_24 ?_
  refine lv_istore (lv' := [(4, Value.int (iI ((g1 / 100) % 10))), (3, Value.int (iI ((g1 / 1000) % 100))), (2, Value.int (iI ((g1 / 10000) % 10))), (0, Value.ref (ma 0)), (1, Value.int (iI g1))]) hx hb dX10_command_25 hl (by decide) rfl (fun ls hl => ?_)
  refine lv_iload_n hx hb dX10_command_27 rfl (lv_at hl 4 rfl) ?_
  refine lv_bipush (v := iI 100) hx hb dX10_command_28 (by decide) ?_
  refine zi_rem hx hb ⟨by omega, by omega⟩ ⟨by decide, by decide⟩ dX10_command_30 ?_
  refine lv_istore (lv' := [(5, Value.int (iI (g1 % 100))), (4, Value.int (iI ((g1 / 100) % 10))), (3, Value.int (iI ((g1 / 1000) % 100))), (2, Value.int (iI ((g1 / 10000) % 10))), (0, Value.ref (ma 0)), (1, Value.int (iI g1))]) hx hb dX10_command_31 hl (by decide) rfl (fun ls hl => ?_)
  refine lv_iload_n hx hb dX10_command_33 rfl (lv_at hl 5 rfl) ?_
  refine lv_bipush (v := iI 10) hx hb dX10_command_34 (by decide) ?_
  refine zi_rem hx hb ⟨by omega, by omega⟩ ⟨by decide, by decide⟩ dX10_command_36 ?_
  refine lv_istore (lv' := [(6, Value.int (iI (g1 % 10))), (5, Value.int (iI (g1 % 100))), (4, Value.int (iI ((g1 / 100) % 10))), (3, Value.int (iI ((g1 / 1000) % 100))), (2, Value.int (iI ((g1 / 10000) % 10))), (0, Value.ref (ma 0)), (1, Value.int (iI g1))]) hx hb dX10_command_37 hl (by decide) rfl (fun ls hl => ?_)
  refine lv_iload_n hx hb dX10_command_39 rfl (lv_at hl 6 rfl) ?_
  refine lv_ldcw (v := iI 100000) hx hb hown (hts _ (List.mem_of_getElem? (i := 1) rfl)) dX10_command_40 ?_
  refine zi_div hx hb ⟨by omega, by omega⟩ ⟨by decide, by decide⟩ dX10_command_43 ?_
  by_cases k_1_1 : (g1 / 100000) = 1
  · refine zi_tabl (tgt := 96) (x := g1 / 100000) k_1_1 hx hb ⟨by decide, by decide⟩ (v := 1) dX10_command_44 (by decide) (by decide) (off := 52) (by decide +kernel) (by decide) ?_
    refine lv_aload_n hx hb dX10_command_96 rfl (lv_at hl 5 rfl) ?_
    refine lv_iload_n hx hb dX10_command_97 rfl (lv_at hl 4 rfl) ?_
    refine lv_iload_n hx hb dX10_command_98 rfl (lv_at hl 6 rfl) ?_
    refine lv_sipush (v := iI 10000) hx hb dX10_command_99 (by decide) ?_
    refine zi_rem hx hb ⟨by omega, by omega⟩ ⟨by decide, by decide⟩ dX10_command_102 ?_
    refine rw_V (As := [Value.int (iI ((g1 / 10000) % 10)), Value.int (iI (g1 % 10000))]) (rest := []) ⟨hx, hb, hml, hown, hts⟩ (c_X10_runCrack l g τ ma M R hI ((g1 / 10000) % 10) ⟨by omega, by omega⟩ (g1 % 10000) ⟨by omega, by omega⟩) gX10_command_X10_runCrack cd_X10_runCrack rfl rfl ⟨rfl, rfl⟩ ⟨Nat.le_of_ble_eq_true rfl, Nat.le_of_ble_eq_true rfl⟩ hK hP hD hS [0, 1] (rfl) (by decide) 0 rfl rfl rfl rfl hl rfl (Nat.le_of_ble_eq_true rfl) dX10_command_103 ⟨Nat.le_of_ble_eq_true rfl, Nat.le_of_ble_eq_true rfl⟩ (fun v w h => by rw [h.2]; rfl) (fun v w1 H locs hZ hP hD hS => ?_)
    obtain ⟨rfl, rfl⟩ := hZ
    have hP : va_P g vwCl ([moO ma M, arC (ma 2) (τ 0) 291 (flR ((aCrack R ((g1 / 10000) % 10) (g1 % 10000)).2)), arC (ma 17) (τ 0) 6 P0]) H := hP
    have hD : va_D A ([moO ma M, arC (ma 2) (τ 0) 291 (flR ((aCrack R ((g1 / 10000) % 10) (g1 % 10000)).2)), arC (ma 17) (τ 0) 6 P0]) := hD
    refine tl_some ?_
    exact rw_zret hx hb hr hlocks hP hS (by (have hq : qCmd R g1 = ((decide (0 ≤ (aCrack R ((g1 / 10000) % 10) (g1 % 10000)).1)), (aCrack R ((g1 / 10000) % 10) (g1 % 10000)).2) := (by unfold qCmd; rw [if_pos (by omega)] <;> first | (rw [if_pos (by omega)]; unfold qA; first | rfl | (exact congrArg (fun z => (z, _)) (decide_eq_true (by assumption))) | (exact congrArg (fun z => (z, _)) (decide_eq_false (by assumption))) | (exact congrArg (fun z => (z, _)) (by assumption)) | (exact congrArg (fun z => (z, _)) (decide_eq_true (by omega))) | (exact congrArg (fun z => (z, _)) (decide_eq_false (by omega)))) | (rw [if_pos (by omega)]; exact congrArg (fun z => (z, rsR R ((g1 / 10000) % 10))) (by assumption)) | (rw [if_neg (by omega)]) | (unfold qA; rfl) | (exact congrArg (fun z => (z, R)) (decide_eq_true (by omega))) | (exact congrArg (fun z => (z, R)) (decide_eq_false (by omega))) | rfl)); rw [hq]; exact ⟨⟨rfl, _, _, AG_r _, rfl⟩, by first | exact ⟨_, iI_b2 _⟩ | exact ⟨false, rfl⟩ | exact ⟨true, rfl⟩⟩) dX10_command_106
  by_cases k_1_2 : (g1 / 100000) = 2
  · refine zi_tabl (tgt := 107) (x := g1 / 100000) k_1_2 hx hb ⟨by decide, by decide⟩ (v := 2) dX10_command_44 (by decide) (by decide) (off := 63) (by decide +kernel) (by decide) ?_
    refine lv_iload hx hb dX10_command_107 (lv_at hl 1 rfl) ?_
    refine zi_if_ne (tgt := 126) hx hb ⟨by omega, by omega⟩ dX10_command_109 (by decide) (fun c_2 => ?_) (fun c_2 => ?_)
    · have _ := c_2
      refine lv_iconst (v := iI 0) hx hb dX10_command_126 (by decide) ?_
      exact rw_zret hx hb hr hlocks hP hS (by (have hq : qCmd R g1 = (false, R) := (by unfold qCmd; rw [if_neg (by omega), if_pos (by omega)] <;> first | (rw [if_pos (by omega)]; unfold qA; first | rfl | (exact congrArg (fun z => (z, _)) (decide_eq_true (by assumption))) | (exact congrArg (fun z => (z, _)) (decide_eq_false (by assumption))) | (exact congrArg (fun z => (z, _)) (by assumption)) | (exact congrArg (fun z => (z, _)) (decide_eq_true (by omega))) | (exact congrArg (fun z => (z, _)) (decide_eq_false (by omega)))) | (rw [if_pos (by omega)]; exact congrArg (fun z => (z, rsR R ((g1 / 10000) % 10))) (by assumption)) | (rw [if_neg (by omega)]) | (unfold qA; rfl) | (exact congrArg (fun z => (z, R)) (decide_eq_true (by omega))) | (exact congrArg (fun z => (z, R)) (decide_eq_false (by omega))) | rfl)); rw [hq]; exact ⟨⟨rfl, _, _, AG_r _, rfl⟩, by first | exact ⟨_, iI_b2 _⟩ | exact ⟨false, rfl⟩ | exact ⟨true, rfl⟩⟩) dX10_command_127
    · have _ := c_2
      refine lv_aload_n hx hb dX10_command_112 rfl (lv_at hl 5 rfl) ?_
      refine lv_iload_n hx hb dX10_command_113 rfl (lv_at hl 3 rfl) ?_
      refine lv_iload hx hb dX10_command_114 (lv_at hl 2 rfl) ?_
      refine rw_V (As := [Value.int (iI ((g1 / 1000) % 100)), Value.int (iI ((g1 / 100) % 10))]) (rest := []) ⟨hx, hb, hml, hown, hts⟩ (c_X10_runHang l g τ ma M R hI ((g1 / 1000) % 100) ⟨by omega, by omega⟩ ((g1 / 100) % 10) ⟨by omega, by omega⟩) gX10_command_X10_runHang cd_X10_runHang rfl rfl ⟨rfl, rfl⟩ ⟨Nat.le_of_ble_eq_true rfl, Nat.le_of_ble_eq_true rfl⟩ hK hP hD hS [0, 1] (rfl) (by decide) 0 rfl rfl rfl rfl hl rfl (Nat.le_of_ble_eq_true rfl) dX10_command_116 ⟨Nat.le_of_ble_eq_true rfl, Nat.le_of_ble_eq_true rfl⟩ (fun v w h => by rw [h.2]; rfl) (fun v w1 H locs hZ hP hD hS => ?_)
      obtain ⟨rfl, rfl⟩ := hZ
      have hP : va_P g vwCl ([moO ma M, arC (ma 2) (τ 0) 291 (flR ((aHang R ((g1 / 1000) % 100) ((g1 / 100) % 10)).2)), arC (ma 17) (τ 0) 6 P0]) H := hP
      have hD : va_D A ([moO ma M, arC (ma 2) (τ 0) 291 (flR ((aHang R ((g1 / 1000) % 100) ((g1 / 100) % 10)).2)), arC (ma 17) (τ 0) 6 P0]) := hD
      refine tl_some ?_
      refine zb_if_eq (tgt := 126) hx hb dX10_command_119 (by decide) (fun c_3 => ?_) (fun c_3 => ?_)
      · have _ := c_3
        refine lv_iconst (v := iI 0) hx hb dX10_command_126 (by decide) ?_
        exact rw_zret hx hb hr hlocks hP hS (by (have hq : qCmd R g1 = (false, (aHang R ((g1 / 1000) % 100) ((g1 / 100) % 10)).2) := (by unfold qCmd; rw [if_neg (by omega), if_pos (by omega)] <;> first | (rw [if_pos (by omega)]; unfold qA; first | rfl | (exact congrArg (fun z => (z, _)) (decide_eq_true (by assumption))) | (exact congrArg (fun z => (z, _)) (decide_eq_false (by assumption))) | (exact congrArg (fun z => (z, _)) (by assumption)) | (exact congrArg (fun z => (z, _)) (decide_eq_true (by omega))) | (exact congrArg (fun z => (z, _)) (decide_eq_false (by omega)))) | (rw [if_pos (by omega)]; exact congrArg (fun z => (z, rsR R ((g1 / 10000) % 10))) (by assumption)) | (rw [if_neg (by omega)]) | (unfold qA; rfl) | (exact congrArg (fun z => (z, R)) (decide_eq_true (by omega))) | (exact congrArg (fun z => (z, R)) (decide_eq_false (by omega))) | rfl)); rw [hq]; exact ⟨⟨rfl, _, _, AG_r _, rfl⟩, by first | exact ⟨_, iI_b2 _⟩ | exact ⟨false, rfl⟩ | exact ⟨true, rfl⟩⟩) dX10_command_127
      · have _ := c_3
        refine lv_iconst (v := iI 1) hx hb dX10_command_122 (by decide) ?_
        refine lv_goto (tgt := 127) hx hb dX10_command_123 (by decide) ?_
        exact rw_zret hx hb hr hlocks hP hS (by (have hq : qCmd R g1 = (true, (aHang R ((g1 / 1000) % 100) ((g1 / 100) % 10)).2) := (by unfold qCmd; rw [if_neg (by omega), if_pos (by omega)] <;> first | (rw [if_pos (by omega)]; unfold qA; first | rfl | (exact congrArg (fun z => (z, _)) (decide_eq_true (by assumption))) | (exact congrArg (fun z => (z, _)) (decide_eq_false (by assumption))) | (exact congrArg (fun z => (z, _)) (by assumption)) | (exact congrArg (fun z => (z, _)) (decide_eq_true (by omega))) | (exact congrArg (fun z => (z, _)) (decide_eq_false (by omega)))) | (rw [if_pos (by omega)]; exact congrArg (fun z => (z, rsR R ((g1 / 10000) % 10))) (by assumption)) | (rw [if_neg (by omega)]) | (unfold qA; rfl) | (exact congrArg (fun z => (z, R)) (decide_eq_true (by omega))) | (exact congrArg (fun z => (z, R)) (decide_eq_false (by omega))) | rfl)); rw [hq]; exact ⟨⟨rfl, _, _, AG_r _, rfl⟩, by first | exact ⟨_, iI_b2 _⟩ | exact ⟨false, rfl⟩ | exact ⟨true, rfl⟩⟩) dX10_command_127
  by_cases k_1_3 : (g1 / 100000) = 3
  · refine zi_tabl (tgt := 128) (x := g1 / 100000) k_1_3 hx hb ⟨by decide, by decide⟩ (v := 3) dX10_command_44 (by decide) (by decide) (off := 84) (by decide +kernel) (by decide) ?_
    refine lv_iload_n hx hb dX10_command_128 rfl (lv_at hl 6 rfl) ?_
    refine lv_sipush (v := iI 1000) hx hb dX10_command_129 (by decide) ?_
    refine zi_rem hx hb ⟨by omega, by omega⟩ ⟨by decide, by decide⟩ dX10_command_132 ?_
    refine zi_if_ne (tgt := 148) hx hb ⟨by omega, by omega⟩ dX10_command_133 (by decide) (fun c_4 => ?_) (fun c_4 => ?_)
    · have _ := c_4
      refine lv_iconst (v := iI 0) hx hb dX10_command_148 (by decide) ?_
      exact rw_zret hx hb hr hlocks hP hS (by (have hq : qCmd R g1 = (false, R) := (by unfold qCmd; rw [if_neg (by omega), if_neg (by omega), if_pos (by omega)] <;> first | (rw [if_pos (by omega)]; unfold qA; first | rfl | (exact congrArg (fun z => (z, _)) (decide_eq_true (by assumption))) | (exact congrArg (fun z => (z, _)) (decide_eq_false (by assumption))) | (exact congrArg (fun z => (z, _)) (by assumption)) | (exact congrArg (fun z => (z, _)) (decide_eq_true (by omega))) | (exact congrArg (fun z => (z, _)) (decide_eq_false (by omega)))) | (rw [if_pos (by omega)]; exact congrArg (fun z => (z, rsR R ((g1 / 10000) % 10))) (by assumption)) | (rw [if_neg (by omega)]) | (unfold qA; rfl) | (exact congrArg (fun z => (z, R)) (decide_eq_true (by omega))) | (exact congrArg (fun z => (z, R)) (decide_eq_false (by omega))) | rfl)); rw [hq]; exact ⟨⟨rfl, _, _, AG_r _, rfl⟩, by first | exact ⟨_, iI_b2 _⟩ | exact ⟨false, rfl⟩ | exact ⟨true, rfl⟩⟩) dX10_command_149
    · have _ := c_4
      refine lv_aload_n hx hb dX10_command_136 rfl (lv_at hl 5 rfl) ?_
      refine lv_iload_n hx hb dX10_command_137 rfl (lv_at hl 3 rfl) ?_
      refine rw_V (As := [Value.int (iI ((g1 / 1000) % 100))]) (rest := []) ⟨hx, hb, hml, hown, hts⟩ (c_X10_runCut l g τ ma M R hI ((g1 / 1000) % 100) ⟨by omega, by omega⟩) gX10_command_X10_runCut cd_X10_runCut rfl rfl ⟨rfl, rfl⟩ ⟨Nat.le_of_ble_eq_true rfl, Nat.le_of_ble_eq_true rfl⟩ hK hP hD hS [0, 1] (rfl) (by decide) 0 rfl rfl rfl rfl hl rfl (Nat.le_of_ble_eq_true rfl) dX10_command_138 ⟨Nat.le_of_ble_eq_true rfl, Nat.le_of_ble_eq_true rfl⟩ (fun v w h => by rw [h.2]; rfl) (fun v w1 H locs hZ hP hD hS => ?_)
      obtain ⟨rfl, rfl⟩ := hZ
      have hP : va_P g vwCl ([moO ma M, arC (ma 2) (τ 0) 291 (flR ((aCut R ((g1 / 1000) % 100)).2)), arC (ma 17) (τ 0) 6 P0]) H := hP
      have hD : va_D A ([moO ma M, arC (ma 2) (τ 0) 291 (flR ((aCut R ((g1 / 1000) % 100)).2)), arC (ma 17) (τ 0) 6 P0]) := hD
      refine tl_some ?_
      refine zb_if_eq (tgt := 148) hx hb dX10_command_141 (by decide) (fun c_5 => ?_) (fun c_5 => ?_)
      · have _ := c_5
        refine lv_iconst (v := iI 0) hx hb dX10_command_148 (by decide) ?_
        exact rw_zret hx hb hr hlocks hP hS (by (have hq : qCmd R g1 = (false, (aCut R ((g1 / 1000) % 100)).2) := (by unfold qCmd; rw [if_neg (by omega), if_neg (by omega), if_pos (by omega)] <;> first | (rw [if_pos (by omega)]; unfold qA; first | rfl | (exact congrArg (fun z => (z, _)) (decide_eq_true (by assumption))) | (exact congrArg (fun z => (z, _)) (decide_eq_false (by assumption))) | (exact congrArg (fun z => (z, _)) (by assumption)) | (exact congrArg (fun z => (z, _)) (decide_eq_true (by omega))) | (exact congrArg (fun z => (z, _)) (decide_eq_false (by omega)))) | (rw [if_pos (by omega)]; exact congrArg (fun z => (z, rsR R ((g1 / 10000) % 10))) (by assumption)) | (rw [if_neg (by omega)]) | (unfold qA; rfl) | (exact congrArg (fun z => (z, R)) (decide_eq_true (by omega))) | (exact congrArg (fun z => (z, R)) (decide_eq_false (by omega))) | rfl)); rw [hq]; exact ⟨⟨rfl, _, _, AG_r _, rfl⟩, by first | exact ⟨_, iI_b2 _⟩ | exact ⟨false, rfl⟩ | exact ⟨true, rfl⟩⟩) dX10_command_149
      · have _ := c_5
        refine lv_iconst (v := iI 1) hx hb dX10_command_144 (by decide) ?_
        refine lv_goto (tgt := 149) hx hb dX10_command_145 (by decide) ?_
        exact rw_zret hx hb hr hlocks hP hS (by (have hq : qCmd R g1 = (true, (aCut R ((g1 / 1000) % 100)).2) := (by unfold qCmd; rw [if_neg (by omega), if_neg (by omega), if_pos (by omega)] <;> first | (rw [if_pos (by omega)]; unfold qA; first | rfl | (exact congrArg (fun z => (z, _)) (decide_eq_true (by assumption))) | (exact congrArg (fun z => (z, _)) (decide_eq_false (by assumption))) | (exact congrArg (fun z => (z, _)) (by assumption)) | (exact congrArg (fun z => (z, _)) (decide_eq_true (by omega))) | (exact congrArg (fun z => (z, _)) (decide_eq_false (by omega)))) | (rw [if_pos (by omega)]; exact congrArg (fun z => (z, rsR R ((g1 / 10000) % 10))) (by assumption)) | (rw [if_neg (by omega)]) | (unfold qA; rfl) | (exact congrArg (fun z => (z, R)) (decide_eq_true (by omega))) | (exact congrArg (fun z => (z, R)) (decide_eq_false (by omega))) | rfl)); rw [hq]; exact ⟨⟨rfl, _, _, AG_r _, rfl⟩, by first | exact ⟨_, iI_b2 _⟩ | exact ⟨false, rfl⟩ | exact ⟨true, rfl⟩⟩) dX10_command_149
  by_cases k_1_4 : (g1 / 100000) = 4
  · refine zi_tabl (tgt := 150) (x := g1 / 100000) k_1_4 hx hb ⟨by decide, by decide⟩ (v := 4) dX10_command_44 (by decide) (by decide) (off := 106) (by decide +kernel) (by decide) ?_
    refine lv_iload hx hb dX10_command_150 (lv_at hl 0 rfl) ?_
    refine zi_if_ne (tgt := 174) hx hb ⟨by omega, by omega⟩ dX10_command_152 (by decide) (fun c_6 => ?_) (fun c_6 => ?_)
    · have _ := c_6
      refine lv_iconst (v := iI 0) hx hb dX10_command_174 (by decide) ?_
      exact rw_zret hx hb hr hlocks hP hS (by (have hq : qCmd R g1 = (false, R) := (by unfold qCmd; rw [if_neg (by omega), if_neg (by omega), if_neg (by omega), if_pos (by omega)] <;> first | (rw [if_pos (by omega)]; unfold qA; first | rfl | (exact congrArg (fun z => (z, _)) (decide_eq_true (by assumption))) | (exact congrArg (fun z => (z, _)) (decide_eq_false (by assumption))) | (exact congrArg (fun z => (z, _)) (by assumption)) | (exact congrArg (fun z => (z, _)) (decide_eq_true (by omega))) | (exact congrArg (fun z => (z, _)) (decide_eq_false (by omega)))) | (rw [if_pos (by omega)]; exact congrArg (fun z => (z, rsR R ((g1 / 10000) % 10))) (by assumption)) | (rw [if_neg (by omega)]) | (unfold qA; rfl) | (exact congrArg (fun z => (z, R)) (decide_eq_true (by omega))) | (exact congrArg (fun z => (z, R)) (decide_eq_false (by omega))) | rfl)); rw [hq]; exact ⟨⟨rfl, _, _, AG_r _, rfl⟩, by first | exact ⟨_, iI_b2 _⟩ | exact ⟨false, rfl⟩ | exact ⟨true, rfl⟩⟩) dX10_command_175
    · have _ := c_6
      refine lv_aload_n hx hb dX10_command_155 rfl (lv_at hl 5 rfl) ?_
      refine lv_iload_n hx hb dX10_command_156 rfl (lv_at hl 3 rfl) ?_
      refine lv_iload hx hb dX10_command_157 (lv_at hl 2 rfl) ?_
      refine lv_iload hx hb dX10_command_159 (lv_at hl 1 rfl) ?_
      refine lv_bipush (v := iI 10) hx hb dX10_command_161 (by decide) ?_
      refine zi_div hx hb ⟨by omega, by omega⟩ ⟨by decide, by decide⟩ dX10_command_163 ?_
      refine rw_V (As := [Value.int (iI ((g1 / 1000) % 100)), Value.int (iI ((g1 / 100) % 10)), Value.int (iI ((g1 % 100) / 10))]) (rest := []) ⟨hx, hb, hml, hown, hts⟩ (c_X10_runShelve l g τ ma M R hI ((g1 / 1000) % 100) ⟨by omega, by omega⟩ ((g1 / 100) % 10) ⟨by omega, by omega⟩ ((g1 % 100) / 10) ⟨by omega, by omega⟩) gX10_command_X10_runShelve cd_X10_runShelve rfl rfl ⟨rfl, rfl⟩ ⟨Nat.le_of_ble_eq_true rfl, Nat.le_of_ble_eq_true rfl⟩ hK hP hD hS [0, 1] (rfl) (by decide) 0 rfl rfl rfl rfl hl rfl (Nat.le_of_ble_eq_true rfl) dX10_command_164 ⟨Nat.le_of_ble_eq_true rfl, Nat.le_of_ble_eq_true rfl⟩ (fun v w h => by rw [h.2]; rfl) (fun v w1 H locs hZ hP hD hS => ?_)
      obtain ⟨rfl, rfl⟩ := hZ
      have hP : va_P g vwCl ([moO ma M, arC (ma 2) (τ 0) 291 (flR ((aShelve R ((g1 / 1000) % 100) ((g1 / 100) % 10) ((g1 % 100) / 10)).2)), arC (ma 17) (τ 0) 6 P0]) H := hP
      have hD : va_D A ([moO ma M, arC (ma 2) (τ 0) 291 (flR ((aShelve R ((g1 / 1000) % 100) ((g1 / 100) % 10) ((g1 % 100) / 10)).2)), arC (ma 17) (τ 0) 6 P0]) := hD
      refine tl_some ?_
      refine zb_if_eq (tgt := 174) hx hb dX10_command_167 (by decide) (fun c_7 => ?_) (fun c_7 => ?_)
      · have _ := c_7
        refine lv_iconst (v := iI 0) hx hb dX10_command_174 (by decide) ?_
        exact rw_zret hx hb hr hlocks hP hS (by (have hq : qCmd R g1 = (false, (aShelve R ((g1 / 1000) % 100) ((g1 / 100) % 10) ((g1 % 100) / 10)).2) := (by unfold qCmd; rw [if_neg (by omega), if_neg (by omega), if_neg (by omega), if_pos (by omega)] <;> first | (rw [if_pos (by omega)]; unfold qA; first | rfl | (exact congrArg (fun z => (z, _)) (decide_eq_true (by assumption))) | (exact congrArg (fun z => (z, _)) (decide_eq_false (by assumption))) | (exact congrArg (fun z => (z, _)) (by assumption)) | (exact congrArg (fun z => (z, _)) (decide_eq_true (by omega))) | (exact congrArg (fun z => (z, _)) (decide_eq_false (by omega)))) | (rw [if_pos (by omega)]; exact congrArg (fun z => (z, rsR R ((g1 / 10000) % 10))) (by assumption)) | (rw [if_neg (by omega)]) | (unfold qA; rfl) | (exact congrArg (fun z => (z, R)) (decide_eq_true (by omega))) | (exact congrArg (fun z => (z, R)) (decide_eq_false (by omega))) | rfl)); rw [hq]; exact ⟨⟨rfl, _, _, AG_r _, rfl⟩, by first | exact ⟨_, iI_b2 _⟩ | exact ⟨false, rfl⟩ | exact ⟨true, rfl⟩⟩) dX10_command_175
      · have _ := c_7
        refine lv_iconst (v := iI 1) hx hb dX10_command_170 (by decide) ?_
        refine lv_goto (tgt := 175) hx hb dX10_command_171 (by decide) ?_
        exact rw_zret hx hb hr hlocks hP hS (by (have hq : qCmd R g1 = (true, (aShelve R ((g1 / 1000) % 100) ((g1 / 100) % 10) ((g1 % 100) / 10)).2) := (by unfold qCmd; rw [if_neg (by omega), if_neg (by omega), if_neg (by omega), if_pos (by omega)] <;> first | (rw [if_pos (by omega)]; unfold qA; first | rfl | (exact congrArg (fun z => (z, _)) (decide_eq_true (by assumption))) | (exact congrArg (fun z => (z, _)) (decide_eq_false (by assumption))) | (exact congrArg (fun z => (z, _)) (by assumption)) | (exact congrArg (fun z => (z, _)) (decide_eq_true (by omega))) | (exact congrArg (fun z => (z, _)) (decide_eq_false (by omega)))) | (rw [if_pos (by omega)]; exact congrArg (fun z => (z, rsR R ((g1 / 10000) % 10))) (by assumption)) | (rw [if_neg (by omega)]) | (unfold qA; rfl) | (exact congrArg (fun z => (z, R)) (decide_eq_true (by omega))) | (exact congrArg (fun z => (z, R)) (decide_eq_false (by omega))) | rfl)); rw [hq]; exact ⟨⟨rfl, _, _, AG_r _, rfl⟩, by first | exact ⟨_, iI_b2 _⟩ | exact ⟨false, rfl⟩ | exact ⟨true, rfl⟩⟩) dX10_command_175
  by_cases k_1_5 : (g1 / 100000) = 5
  · refine zi_tabl (tgt := 176) (x := g1 / 100000) k_1_5 hx hb ⟨by decide, by decide⟩ (v := 5) dX10_command_44 (by decide) (by decide) (off := 132) (by decide +kernel) (by decide) ?_
    refine lv_iload hx hb dX10_command_176 (lv_at hl 0 rfl) ?_
    refine zi_if_ne (tgt := 200) hx hb ⟨by omega, by omega⟩ dX10_command_178 (by decide) (fun c_8 => ?_) (fun c_8 => ?_)
    · have _ := c_8
      refine lv_iconst (v := iI 0) hx hb dX10_command_200 (by decide) ?_
      exact rw_zret hx hb hr hlocks hP hS (by (have hq : qCmd R g1 = (false, R) := (by unfold qCmd; rw [if_neg (by omega), if_neg (by omega), if_neg (by omega), if_neg (by omega), if_pos (by omega)] <;> first | (rw [if_pos (by omega)]; unfold qA; first | rfl | (exact congrArg (fun z => (z, _)) (decide_eq_true (by assumption))) | (exact congrArg (fun z => (z, _)) (decide_eq_false (by assumption))) | (exact congrArg (fun z => (z, _)) (by assumption)) | (exact congrArg (fun z => (z, _)) (decide_eq_true (by omega))) | (exact congrArg (fun z => (z, _)) (decide_eq_false (by omega)))) | (rw [if_pos (by omega)]; exact congrArg (fun z => (z, rsR R ((g1 / 10000) % 10))) (by assumption)) | (rw [if_neg (by omega)]) | (unfold qA; rfl) | (exact congrArg (fun z => (z, R)) (decide_eq_true (by omega))) | (exact congrArg (fun z => (z, R)) (decide_eq_false (by omega))) | rfl)); rw [hq]; exact ⟨⟨rfl, _, _, AG_r _, rfl⟩, by first | exact ⟨_, iI_b2 _⟩ | exact ⟨false, rfl⟩ | exact ⟨true, rfl⟩⟩) dX10_command_201
    · have _ := c_8
      refine lv_aload_n hx hb dX10_command_181 rfl (lv_at hl 5 rfl) ?_
      refine lv_iload_n hx hb dX10_command_182 rfl (lv_at hl 3 rfl) ?_
      refine lv_iload_n hx hb dX10_command_183 rfl (lv_at hl 6 rfl) ?_
      refine lv_bipush (v := iI 10) hx hb dX10_command_184 (by decide) ?_
      refine zi_div hx hb ⟨by omega, by omega⟩ ⟨by decide, by decide⟩ dX10_command_186 ?_
      refine lv_bipush (v := iI 100) hx hb dX10_command_187 (by decide) ?_
      refine zi_rem hx hb ⟨by omega, by omega⟩ ⟨by decide, by decide⟩ dX10_command_189 ?_
      refine rw_V (As := [Value.int (iI ((g1 / 1000) % 100)), Value.int (iI ((g1 / 10) % 100))]) (rest := []) ⟨hx, hb, hml, hown, hts⟩ (c_X10_runShow l g τ ma M R hI ((g1 / 1000) % 100) ⟨by omega, by omega⟩ ((g1 / 10) % 100) ⟨by omega, by omega⟩) gX10_command_X10_runShow cd_X10_runShow rfl rfl ⟨rfl, rfl⟩ ⟨Nat.le_of_ble_eq_true rfl, Nat.le_of_ble_eq_true rfl⟩ hK hP hD hS [0, 1] (rfl) (by decide) 0 rfl rfl rfl rfl hl rfl (Nat.le_of_ble_eq_true rfl) dX10_command_190 ⟨Nat.le_of_ble_eq_true rfl, Nat.le_of_ble_eq_true rfl⟩ (fun v w h => by rw [h.2]; rfl) (fun v w1 H locs hZ hP hD hS => ?_)
      obtain ⟨rfl, rfl⟩ := hZ
      have hP : va_P g vwCl ([moO ma M, arC (ma 2) (τ 0) 291 (flR ((aShow R ((g1 / 1000) % 100) ((g1 / 10) % 100)).2)), arC (ma 17) (τ 0) 6 P0]) H := hP
      have hD : va_D A ([moO ma M, arC (ma 2) (τ 0) 291 (flR ((aShow R ((g1 / 1000) % 100) ((g1 / 10) % 100)).2)), arC (ma 17) (τ 0) 6 P0]) := hD
      refine tl_some ?_
      refine zb_if_eq (tgt := 200) hx hb dX10_command_193 (by decide) (fun c_9 => ?_) (fun c_9 => ?_)
      · have _ := c_9
        refine lv_iconst (v := iI 0) hx hb dX10_command_200 (by decide) ?_
        exact rw_zret hx hb hr hlocks hP hS (by (have hq : qCmd R g1 = (false, (aShow R ((g1 / 1000) % 100) ((g1 / 10) % 100)).2) := (by unfold qCmd; rw [if_neg (by omega), if_neg (by omega), if_neg (by omega), if_neg (by omega), if_pos (by omega)] <;> first | (rw [if_pos (by omega)]; unfold qA; first | rfl | (exact congrArg (fun z => (z, _)) (decide_eq_true (by assumption))) | (exact congrArg (fun z => (z, _)) (decide_eq_false (by assumption))) | (exact congrArg (fun z => (z, _)) (by assumption)) | (exact congrArg (fun z => (z, _)) (decide_eq_true (by omega))) | (exact congrArg (fun z => (z, _)) (decide_eq_false (by omega)))) | (rw [if_pos (by omega)]; exact congrArg (fun z => (z, rsR R ((g1 / 10000) % 10))) (by assumption)) | (rw [if_neg (by omega)]) | (unfold qA; rfl) | (exact congrArg (fun z => (z, R)) (decide_eq_true (by omega))) | (exact congrArg (fun z => (z, R)) (decide_eq_false (by omega))) | rfl)); rw [hq]; exact ⟨⟨rfl, _, _, AG_r _, rfl⟩, by first | exact ⟨_, iI_b2 _⟩ | exact ⟨false, rfl⟩ | exact ⟨true, rfl⟩⟩) dX10_command_201
      · have _ := c_9
        refine lv_iconst (v := iI 1) hx hb dX10_command_196 (by decide) ?_
        refine lv_goto (tgt := 201) hx hb dX10_command_197 (by decide) ?_
        exact rw_zret hx hb hr hlocks hP hS (by (have hq : qCmd R g1 = (true, (aShow R ((g1 / 1000) % 100) ((g1 / 10) % 100)).2) := (by unfold qCmd; rw [if_neg (by omega), if_neg (by omega), if_neg (by omega), if_neg (by omega), if_pos (by omega)] <;> first | (rw [if_pos (by omega)]; unfold qA; first | rfl | (exact congrArg (fun z => (z, _)) (decide_eq_true (by assumption))) | (exact congrArg (fun z => (z, _)) (decide_eq_false (by assumption))) | (exact congrArg (fun z => (z, _)) (by assumption)) | (exact congrArg (fun z => (z, _)) (decide_eq_true (by omega))) | (exact congrArg (fun z => (z, _)) (decide_eq_false (by omega)))) | (rw [if_pos (by omega)]; exact congrArg (fun z => (z, rsR R ((g1 / 10000) % 10))) (by assumption)) | (rw [if_neg (by omega)]) | (unfold qA; rfl) | (exact congrArg (fun z => (z, R)) (decide_eq_true (by omega))) | (exact congrArg (fun z => (z, R)) (decide_eq_false (by omega))) | rfl)); rw [hq]; exact ⟨⟨rfl, _, _, AG_r _, rfl⟩, by first | exact ⟨_, iI_b2 _⟩ | exact ⟨false, rfl⟩ | exact ⟨true, rfl⟩⟩) dX10_command_201
  by_cases k_1_6 : (g1 / 100000) = 6
  · refine zi_tabl (tgt := 202) (x := g1 / 100000) k_1_6 hx hb ⟨by decide, by decide⟩ (v := 6) dX10_command_44 (by decide) (by decide) (off := 158) (by decide +kernel) (by decide) ?_
    refine lv_iload_n hx hb dX10_command_202 rfl (lv_at hl 6 rfl) ?_
    refine lv_sipush (v := iI 10000) hx hb dX10_command_203 (by decide) ?_
    refine zi_rem hx hb ⟨by omega, by omega⟩ ⟨by decide, by decide⟩ dX10_command_206 ?_
    refine zi_if_ne (tgt := 222) hx hb ⟨by omega, by omega⟩ dX10_command_207 (by decide) (fun c_10 => ?_) (fun c_10 => ?_)
    · have _ := c_10
      refine lv_iconst (v := iI 0) hx hb dX10_command_222 (by decide) ?_
      exact rw_zret hx hb hr hlocks hP hS (by (have hq : qCmd R g1 = (false, R) := (by unfold qCmd; rw [if_neg (by omega), if_neg (by omega), if_neg (by omega), if_neg (by omega), if_neg (by omega), if_pos (by omega)] <;> first | (rw [if_pos (by omega)]; unfold qA; first | rfl | (exact congrArg (fun z => (z, _)) (decide_eq_true (by assumption))) | (exact congrArg (fun z => (z, _)) (decide_eq_false (by assumption))) | (exact congrArg (fun z => (z, _)) (by assumption)) | (exact congrArg (fun z => (z, _)) (decide_eq_true (by omega))) | (exact congrArg (fun z => (z, _)) (decide_eq_false (by omega)))) | (rw [if_pos (by omega)]; exact congrArg (fun z => (z, rsR R ((g1 / 10000) % 10))) (by assumption)) | (rw [if_neg (by omega)]) | (unfold qA; rfl) | (exact congrArg (fun z => (z, R)) (decide_eq_true (by omega))) | (exact congrArg (fun z => (z, R)) (decide_eq_false (by omega))) | rfl)); rw [hq]; exact ⟨⟨rfl, _, _, AG_r _, rfl⟩, by first | exact ⟨_, iI_b2 _⟩ | exact ⟨false, rfl⟩ | exact ⟨true, rfl⟩⟩) dX10_command_223
    · have _ := c_10
      refine lv_aload_n hx hb dX10_command_210 rfl (lv_at hl 5 rfl) ?_
      refine lv_iload_n hx hb dX10_command_211 rfl (lv_at hl 4 rfl) ?_
      refine rw_V (As := [Value.int (iI ((g1 / 10000) % 10))]) (rest := []) ⟨hx, hb, hml, hown, hts⟩ (c_X10_runSort l g τ ma M R hI P0 ((g1 / 10000) % 10) ⟨by omega, by omega⟩) gX10_command_X10_runSort cd_X10_runSort rfl rfl ⟨rfl, rfl⟩ ⟨Nat.le_of_ble_eq_true rfl, Nat.le_of_ble_eq_true rfl⟩ hK hP hD hS [0, 1, 2] (rfl) (by decide) 0 rfl rfl rfl rfl hl rfl (Nat.le_of_ble_eq_true rfl) dX10_command_212 ⟨Nat.le_of_ble_eq_true rfl, Nat.le_of_ble_eq_true rfl⟩ (fun v w h => by obtain ⟨-, M9, P9, -, rfl⟩ := h; rfl) (fun v w1 H locs hZ hP hD hS => ?_)
      obtain ⟨rfl, M_11, P_M_11, hgM_11, rfl⟩ := hZ
      have hP : va_P g vwCl ([moO ma M_11, arC (ma 2) (τ 0) 291 (flR (rsR R ((g1 / 10000) % 10))), arC (ma 17) (τ 0) 6 P_M_11]) H := hP
      have hD : va_D A ([moO ma M_11, arC (ma 2) (τ 0) 291 (flR (rsR R ((g1 / 10000) % 10))), arC (ma 17) (τ 0) 6 P_M_11]) := hD
      refine tl_some ?_
      refine zb_if_eq (tgt := 222) hx hb dX10_command_215 (by decide) (fun c_12 => ?_) (fun c_12 => ?_)
      · have _ := c_12
        refine lv_iconst (v := iI 0) hx hb dX10_command_222 (by decide) ?_
        exact rw_zret hx hb hr hlocks hP hS (by (have hq : qCmd R g1 = (false, rsR R ((g1 / 10000) % 10)) := (by unfold qCmd; rw [if_neg (by omega), if_neg (by omega), if_neg (by omega), if_neg (by omega), if_neg (by omega), if_pos (by omega)] <;> first | (rw [if_pos (by omega)]; unfold qA; first | rfl | (exact congrArg (fun z => (z, _)) (decide_eq_true (by assumption))) | (exact congrArg (fun z => (z, _)) (decide_eq_false (by assumption))) | (exact congrArg (fun z => (z, _)) (by assumption)) | (exact congrArg (fun z => (z, _)) (decide_eq_true (by omega))) | (exact congrArg (fun z => (z, _)) (decide_eq_false (by omega)))) | (rw [if_pos (by omega)]; exact congrArg (fun z => (z, rsR R ((g1 / 10000) % 10))) (by assumption)) | (rw [if_neg (by omega)]) | (unfold qA; rfl) | (exact congrArg (fun z => (z, R)) (decide_eq_true (by omega))) | (exact congrArg (fun z => (z, R)) (decide_eq_false (by omega))) | rfl)); rw [hq]; exact ⟨⟨rfl, _, _, AG_t (AG_r _) hgM_11, rfl⟩, by first | exact ⟨_, iI_b2 _⟩ | exact ⟨false, rfl⟩ | exact ⟨true, rfl⟩⟩) dX10_command_223
      · have _ := c_12
        refine lv_iconst (v := iI 1) hx hb dX10_command_218 (by decide) ?_
        refine lv_goto (tgt := 223) hx hb dX10_command_219 (by decide) ?_
        exact rw_zret hx hb hr hlocks hP hS (by (have hq : qCmd R g1 = (true, rsR R ((g1 / 10000) % 10)) := (by unfold qCmd; rw [if_neg (by omega), if_neg (by omega), if_neg (by omega), if_neg (by omega), if_neg (by omega), if_pos (by omega)] <;> first | (rw [if_pos (by omega)]; unfold qA; first | rfl | (exact congrArg (fun z => (z, _)) (decide_eq_true (by assumption))) | (exact congrArg (fun z => (z, _)) (decide_eq_false (by assumption))) | (exact congrArg (fun z => (z, _)) (by assumption)) | (exact congrArg (fun z => (z, _)) (decide_eq_true (by omega))) | (exact congrArg (fun z => (z, _)) (decide_eq_false (by omega)))) | (rw [if_pos (by omega)]; exact congrArg (fun z => (z, rsR R ((g1 / 10000) % 10))) (by assumption)) | (rw [if_neg (by omega)]) | (unfold qA; rfl) | (exact congrArg (fun z => (z, R)) (decide_eq_true (by omega))) | (exact congrArg (fun z => (z, R)) (decide_eq_false (by omega))) | rfl)); rw [hq]; exact ⟨⟨rfl, _, _, AG_t (AG_r _) hgM_11, rfl⟩, by first | exact ⟨_, iI_b2 _⟩ | exact ⟨false, rfl⟩ | exact ⟨true, rfl⟩⟩) dX10_command_223
  by_cases k_1_7 : (g1 / 100000) = 7
  · refine zi_tabl (tgt := 224) (x := g1 / 100000) k_1_7 hx hb ⟨by decide, by decide⟩ (v := 7) dX10_command_44 (by decide) (by decide) (off := 180) (by decide +kernel) (by decide) ?_
    refine lv_iload hx hb dX10_command_224 (lv_at hl 1 rfl) ?_
    refine zi_if_ne (tgt := 248) hx hb ⟨by omega, by omega⟩ dX10_command_226 (by decide) (fun c_13 => ?_) (fun c_13 => ?_)
    · have _ := c_13
      refine lv_iconst (v := iI 0) hx hb dX10_command_248 (by decide) ?_
      exact rw_zret hx hb hr hlocks hP hS (by (have hq : qCmd R g1 = (false, R) := (by unfold qCmd; rw [if_neg (by omega), if_neg (by omega), if_neg (by omega), if_neg (by omega), if_neg (by omega), if_neg (by omega), if_pos (by omega)] <;> first | (rw [if_pos (by omega)]; unfold qA; first | rfl | (exact congrArg (fun z => (z, _)) (decide_eq_true (by assumption))) | (exact congrArg (fun z => (z, _)) (decide_eq_false (by assumption))) | (exact congrArg (fun z => (z, _)) (by assumption)) | (exact congrArg (fun z => (z, _)) (decide_eq_true (by omega))) | (exact congrArg (fun z => (z, _)) (decide_eq_false (by omega)))) | (rw [if_pos (by omega)]; exact congrArg (fun z => (z, rsR R ((g1 / 10000) % 10))) (by assumption)) | (rw [if_neg (by omega)]) | (unfold qA; rfl) | (exact congrArg (fun z => (z, R)) (decide_eq_true (by omega))) | (exact congrArg (fun z => (z, R)) (decide_eq_false (by omega))) | rfl)); rw [hq]; exact ⟨⟨rfl, _, _, AG_r _, rfl⟩, by first | exact ⟨_, iI_b2 _⟩ | exact ⟨false, rfl⟩ | exact ⟨true, rfl⟩⟩) dX10_command_249
    · have _ := c_13
      refine lv_aload_n hx hb dX10_command_229 rfl (lv_at hl 5 rfl) ?_
      refine lv_iload_n hx hb dX10_command_230 rfl (lv_at hl 4 rfl) ?_
      refine lv_iload_n hx hb dX10_command_231 rfl (lv_at hl 6 rfl) ?_
      refine lv_bipush (v := iI 100) hx hb dX10_command_232 (by decide) ?_
      refine zi_div hx hb ⟨by omega, by omega⟩ ⟨by decide, by decide⟩ dX10_command_234 ?_
      refine lv_bipush (v := iI 100) hx hb dX10_command_235 (by decide) ?_
      refine zi_rem hx hb ⟨by omega, by omega⟩ ⟨by decide, by decide⟩ dX10_command_237 ?_
      refine rw_V (As := [Value.int (iI ((g1 / 10000) % 10)), Value.int (iI ((g1 / 100) % 100))]) (rest := []) ⟨hx, hb, hml, hown, hts⟩ (c_X10_runSet l g τ ma M R hI ((g1 / 10000) % 10) ⟨by omega, by omega⟩ ((g1 / 100) % 100) ⟨by omega, by omega⟩) gX10_command_X10_runSet cd_X10_runSet rfl rfl ⟨rfl, rfl⟩ ⟨Nat.le_of_ble_eq_true rfl, Nat.le_of_ble_eq_true rfl⟩ hK hP hD hS [0, 1] (rfl) (by decide) 0 rfl rfl rfl rfl hl rfl (Nat.le_of_ble_eq_true rfl) dX10_command_238 ⟨Nat.le_of_ble_eq_true rfl, Nat.le_of_ble_eq_true rfl⟩ (fun v w h => by rw [h.2]; rfl) (fun v w1 H locs hZ hP hD hS => ?_)
      obtain ⟨rfl, rfl⟩ := hZ
      have hP : va_P g vwCl ([moO ma M, arC (ma 2) (τ 0) 291 (flR ((aSet R ((g1 / 10000) % 10) ((g1 / 100) % 100)).2)), arC (ma 17) (τ 0) 6 P0]) H := hP
      have hD : va_D A ([moO ma M, arC (ma 2) (τ 0) 291 (flR ((aSet R ((g1 / 10000) % 10) ((g1 / 100) % 100)).2)), arC (ma 17) (τ 0) 6 P0]) := hD
      refine tl_some ?_
      refine zb_if_eq (tgt := 248) hx hb dX10_command_241 (by decide) (fun c_14 => ?_) (fun c_14 => ?_)
      · have _ := c_14
        refine lv_iconst (v := iI 0) hx hb dX10_command_248 (by decide) ?_
        exact rw_zret hx hb hr hlocks hP hS (by (have hq : qCmd R g1 = (false, (aSet R ((g1 / 10000) % 10) ((g1 / 100) % 100)).2) := (by unfold qCmd; rw [if_neg (by omega), if_neg (by omega), if_neg (by omega), if_neg (by omega), if_neg (by omega), if_neg (by omega), if_pos (by omega)] <;> first | (rw [if_pos (by omega)]; unfold qA; first | rfl | (exact congrArg (fun z => (z, _)) (decide_eq_true (by assumption))) | (exact congrArg (fun z => (z, _)) (decide_eq_false (by assumption))) | (exact congrArg (fun z => (z, _)) (by assumption)) | (exact congrArg (fun z => (z, _)) (decide_eq_true (by omega))) | (exact congrArg (fun z => (z, _)) (decide_eq_false (by omega)))) | (rw [if_pos (by omega)]; exact congrArg (fun z => (z, rsR R ((g1 / 10000) % 10))) (by assumption)) | (rw [if_neg (by omega)]) | (unfold qA; rfl) | (exact congrArg (fun z => (z, R)) (decide_eq_true (by omega))) | (exact congrArg (fun z => (z, R)) (decide_eq_false (by omega))) | rfl)); rw [hq]; exact ⟨⟨rfl, _, _, AG_r _, rfl⟩, by first | exact ⟨_, iI_b2 _⟩ | exact ⟨false, rfl⟩ | exact ⟨true, rfl⟩⟩) dX10_command_249
      · have _ := c_14
        refine lv_iconst (v := iI 1) hx hb dX10_command_244 (by decide) ?_
        refine lv_goto (tgt := 249) hx hb dX10_command_245 (by decide) ?_
        exact rw_zret hx hb hr hlocks hP hS (by (have hq : qCmd R g1 = (true, (aSet R ((g1 / 10000) % 10) ((g1 / 100) % 100)).2) := (by unfold qCmd; rw [if_neg (by omega), if_neg (by omega), if_neg (by omega), if_neg (by omega), if_neg (by omega), if_neg (by omega), if_pos (by omega)] <;> first | (rw [if_pos (by omega)]; unfold qA; first | rfl | (exact congrArg (fun z => (z, _)) (decide_eq_true (by assumption))) | (exact congrArg (fun z => (z, _)) (decide_eq_false (by assumption))) | (exact congrArg (fun z => (z, _)) (by assumption)) | (exact congrArg (fun z => (z, _)) (decide_eq_true (by omega))) | (exact congrArg (fun z => (z, _)) (decide_eq_false (by omega)))) | (rw [if_pos (by omega)]; exact congrArg (fun z => (z, rsR R ((g1 / 10000) % 10))) (by assumption)) | (rw [if_neg (by omega)]) | (unfold qA; rfl) | (exact congrArg (fun z => (z, R)) (decide_eq_true (by omega))) | (exact congrArg (fun z => (z, R)) (decide_eq_false (by omega))) | rfl)); rw [hq]; exact ⟨⟨rfl, _, _, AG_r _, rfl⟩, by first | exact ⟨_, iI_b2 _⟩ | exact ⟨false, rfl⟩ | exact ⟨true, rfl⟩⟩) dX10_command_249
  by_cases k_1_8 : (g1 / 100000) = 8
  · refine zi_tabl (tgt := 250) (x := g1 / 100000) k_1_8 hx hb ⟨by decide, by decide⟩ (v := 8) dX10_command_44 (by decide) (by decide) (off := 206) (by decide +kernel) (by decide) ?_
    refine lv_iload_n hx hb dX10_command_250 rfl (lv_at hl 6 rfl) ?_
    refine lv_ldcw (v := iI 100000) hx hb hown (hts _ (List.mem_of_getElem? (i := 1) rfl)) dX10_command_251 ?_
    refine zi_rem hx hb ⟨by omega, by omega⟩ ⟨by decide, by decide⟩ dX10_command_254 ?_
    refine lv_bipush (v := iI 100) hx hb dX10_command_255 (by decide) ?_
    refine zi_icmp_ge (tgt := 277) hx hb ⟨by omega, by omega⟩ ⟨by decide, by decide⟩ dX10_command_257 (by decide) (fun c_15 => ?_) (fun c_15 => ?_)
    · have _ := c_15
      refine lv_iconst (v := iI 0) hx hb dX10_command_277 (by decide) ?_
      exact rw_zret hx hb hr hlocks hP hS (by (have hq : qCmd R g1 = (false, R) := (by unfold qCmd; rw [if_neg (by omega), if_neg (by omega), if_neg (by omega), if_neg (by omega), if_neg (by omega), if_neg (by omega), if_neg (by omega), if_pos (by omega)] <;> first | (rw [if_pos (by omega)]; unfold qA; first | rfl | (exact congrArg (fun z => (z, _)) (decide_eq_true (by assumption))) | (exact congrArg (fun z => (z, _)) (decide_eq_false (by assumption))) | (exact congrArg (fun z => (z, _)) (by assumption)) | (exact congrArg (fun z => (z, _)) (decide_eq_true (by omega))) | (exact congrArg (fun z => (z, _)) (decide_eq_false (by omega)))) | (rw [if_pos (by omega)]; exact congrArg (fun z => (z, rsR R ((g1 / 10000) % 10))) (by assumption)) | (rw [if_neg (by omega)]) | (unfold qA; rfl) | (exact congrArg (fun z => (z, R)) (decide_eq_true (by omega))) | (exact congrArg (fun z => (z, R)) (decide_eq_false (by omega))) | rfl)); rw [hq]; exact ⟨⟨rfl, _, _, AG_r _, rfl⟩, by first | exact ⟨_, iI_b2 _⟩ | exact ⟨false, rfl⟩ | exact ⟨true, rfl⟩⟩) dX10_command_278
    · have _ := c_15
      refine lv_aload_n hx hb dX10_command_260 rfl (lv_at hl 5 rfl) ?_
      refine lv_aload_n hx hb dX10_command_261 rfl (lv_at hl 5 rfl) ?_
      refine va_get (D := g) (ci := 10) (v := Value.ref (ma 2)) (C := RX10) (T := TX10) (N := 18) hx hb hts in_X10_command_X10 hown hK.1 hP 0 (rfl) rfl 2 (by decide) (hts _ (List.mem_of_getElem? (i := 2) rfl) : (Cond.fieldLink RX10 13 "CordSealsModel" "trial" "[I").before _ s = true) (fun _ h9 => h9) rfl dX10_command_262 ?_
      refine rw_V (As := [Value.ref (ma 2)]) (rest := []) ⟨hx, hb, hml, hown, hts⟩ (c_X10_fakes l g τ ma M (ma 2) R hI ) gX10_command_X10_fakes cd_X10_fakes rfl rfl ⟨rfl, rfl⟩ ⟨Nat.le_of_ble_eq_true rfl, Nat.le_of_ble_eq_true rfl⟩ hK hP hD hS [0, 1] (rfl) (by decide) 0 rfl rfl rfl rfl hl rfl (Nat.le_of_ble_eq_true rfl) dX10_command_265 ⟨Nat.le_of_ble_eq_true rfl, Nat.le_of_ble_eq_true rfl⟩ (fun v w h => by obtain ⟨-, M9, -, rfl⟩ := h; rfl) (fun v w1 H locs hZ hP hD hS => ?_)
      obtain ⟨rfl, M_16, hgM_16, rfl⟩ := hZ
      have hP : va_P g vwCl ([moO ma M_16, arC (ma 2) (τ 0) 291 (flR R), arC (ma 17) (τ 0) 6 P0]) H := hP
      have hD : va_D A ([moO ma M_16, arC (ma 2) (τ 0) 291 (flR R), arC (ma 17) (τ 0) 6 P0]) := hD
      have hfM_16_0 : M_16 0 = M 0 := hgM_16 0 (by decide)
      have hfM_16_5 : M_16 5 = M 5 := hgM_16 5 (by decide)
      have hfM_16_9 : M_16 9 = M 9 := hgM_16 9 (by decide)
      have hfM_16_10 : M_16 10 = M 10 := hgM_16 10 (by decide)
      have hfM_16_11 : M_16 11 = M 11 := hgM_16 11 (by decide)
      have hfM_16_12 : M_16 12 = M 12 := hgM_16 12 (by decide)
      have := cnt_le (fun s => decide (0 < rFk R s)) (R 10 0).toNat
      have hfks : rFks R (R 10 0).toNat = cnt (fun s => decide (0 < rFk R s)) (R 10 0).toNat := rfl
      refine tl_some ?_
      refine lv_iload hx hb dX10_command_268 (lv_at hl 1 rfl) ?_
      refine zi_icmp_gt (tgt := 277) hx hb ⟨by omega, by omega⟩ ⟨by omega, by omega⟩ dX10_command_270 (by decide) (fun c_17 => ?_) (fun c_17 => ?_)
      · have _ := c_17
        refine lv_iconst (v := iI 0) hx hb dX10_command_277 (by decide) ?_
        exact rw_zret hx hb hr hlocks hP hS (by (have hq : qCmd R g1 = (false, R) := (by unfold qCmd; rw [if_neg (by omega), if_neg (by omega), if_neg (by omega), if_neg (by omega), if_neg (by omega), if_neg (by omega), if_neg (by omega), if_pos (by omega)] <;> first | (rw [if_pos (by omega)]; unfold qA; first | rfl | (exact congrArg (fun z => (z, _)) (decide_eq_true (by assumption))) | (exact congrArg (fun z => (z, _)) (decide_eq_false (by assumption))) | (exact congrArg (fun z => (z, _)) (by assumption)) | (exact congrArg (fun z => (z, _)) (decide_eq_true (by omega))) | (exact congrArg (fun z => (z, _)) (decide_eq_false (by omega)))) | (rw [if_pos (by omega)]; exact congrArg (fun z => (z, rsR R ((g1 / 10000) % 10))) (by assumption)) | (rw [if_neg (by omega)]) | (unfold qA; rfl) | (exact congrArg (fun z => (z, R)) (decide_eq_true (by omega))) | (exact congrArg (fun z => (z, R)) (decide_eq_false (by omega))) | rfl)); rw [hq]; exact ⟨⟨rfl, _, _, AG_t (AG_r _) hgM_16, rfl⟩, by first | exact ⟨_, iI_b2 _⟩ | exact ⟨false, rfl⟩ | exact ⟨true, rfl⟩⟩) dX10_command_278
      · have _ := c_17
        refine lv_iconst (v := iI 1) hx hb dX10_command_273 (by decide) ?_
        refine lv_goto (tgt := 278) hx hb dX10_command_274 (by decide) ?_
        exact rw_zret hx hb hr hlocks hP hS (by (have hq : qCmd R g1 = (true, R) := (by unfold qCmd; rw [if_neg (by omega), if_neg (by omega), if_neg (by omega), if_neg (by omega), if_neg (by omega), if_neg (by omega), if_neg (by omega), if_pos (by omega)] <;> first | (rw [if_pos (by omega)]; unfold qA; first | rfl | (exact congrArg (fun z => (z, _)) (decide_eq_true (by assumption))) | (exact congrArg (fun z => (z, _)) (decide_eq_false (by assumption))) | (exact congrArg (fun z => (z, _)) (by assumption)) | (exact congrArg (fun z => (z, _)) (decide_eq_true (by omega))) | (exact congrArg (fun z => (z, _)) (decide_eq_false (by omega)))) | (rw [if_pos (by omega)]; exact congrArg (fun z => (z, rsR R ((g1 / 10000) % 10))) (by assumption)) | (rw [if_neg (by omega)]) | (unfold qA; rfl) | (exact congrArg (fun z => (z, R)) (decide_eq_true (by omega))) | (exact congrArg (fun z => (z, R)) (decide_eq_false (by omega))) | rfl)); rw [hq]; exact ⟨⟨rfl, _, _, AG_t (AG_r _) hgM_16, rfl⟩, by first | exact ⟨_, iI_b2 _⟩ | exact ⟨false, rfl⟩ | exact ⟨true, rfl⟩⟩) dX10_command_278
  by_cases k_1_9 : (g1 / 100000) = 9
  · refine zi_tabl (tgt := 279) (x := g1 / 100000) k_1_9 hx hb ⟨by decide, by decide⟩ (v := 9) dX10_command_44 (by decide) (by decide) (off := 235) (by decide +kernel) (by decide) ?_
    refine lv_iload_n hx hb dX10_command_279 rfl (lv_at hl 6 rfl) ?_
    refine lv_sipush (v := iI 1000) hx hb dX10_command_280 (by decide) ?_
    refine zi_rem hx hb ⟨by omega, by omega⟩ ⟨by decide, by decide⟩ dX10_command_283 ?_
    refine lv_bipush (v := iI 10) hx hb dX10_command_284 (by decide) ?_
    refine zi_icmp_ge (tgt := 318) hx hb ⟨by omega, by omega⟩ ⟨by decide, by decide⟩ dX10_command_286 (by decide) (fun c_18 => ?_) (fun c_18 => ?_)
    · have _ := c_18
      refine lv_iconst (v := iI 0) hx hb dX10_command_318 (by decide) ?_
      exact rw_zret hx hb hr hlocks hP hS (by (have hq : qCmd R g1 = (false, R) := (by unfold qCmd; rw [if_neg (by omega), if_neg (by omega), if_neg (by omega), if_neg (by omega), if_neg (by omega), if_neg (by omega), if_neg (by omega), if_neg (by omega), if_pos (by omega)] <;> first | (rw [if_pos (by omega)]; unfold qA; first | rfl | (exact congrArg (fun z => (z, _)) (decide_eq_true (by assumption))) | (exact congrArg (fun z => (z, _)) (decide_eq_false (by assumption))) | (exact congrArg (fun z => (z, _)) (by assumption)) | (exact congrArg (fun z => (z, _)) (decide_eq_true (by omega))) | (exact congrArg (fun z => (z, _)) (decide_eq_false (by omega)))) | (rw [if_pos (by omega)]; exact congrArg (fun z => (z, rsR R ((g1 / 10000) % 10))) (by assumption)) | (rw [if_neg (by omega)]) | (unfold qA; rfl) | (exact congrArg (fun z => (z, R)) (decide_eq_true (by omega))) | (exact congrArg (fun z => (z, R)) (decide_eq_false (by omega))) | rfl)); rw [hq]; exact ⟨⟨rfl, _, _, AG_r _, rfl⟩, by first | exact ⟨_, iI_b2 _⟩ | exact ⟨false, rfl⟩ | exact ⟨true, rfl⟩⟩) dX10_command_319
    · have _ := c_18
      refine lv_aload_n hx hb dX10_command_289 rfl (lv_at hl 5 rfl) ?_
      refine va_get (D := g) (ci := 10) (v := Value.ref (ma 2)) (C := RX10) (T := TX10) (N := 18) hx hb hts in_X10_command_X10 hown hK.1 hP 0 (rfl) rfl 2 (by decide) (hts _ (List.mem_of_getElem? (i := 2) rfl) : (Cond.fieldLink RX10 13 "CordSealsModel" "trial" "[I").before _ s = true) (fun _ h9 => h9) rfl dX10_command_290 ?_
      refine lv_iload_n hx hb dX10_command_293 rfl (lv_at hl 3 rfl) ?_
      refine ro_S (As := [Value.ref (ma 2), Value.int (iI ((g1 / 1000) % 100))]) (rest := []) (v := some (Value.int (iI (zB (decide (0 ≤ (g1 / 1000) % 100 ∧ (g1 / 1000) % 100 ≤ R 10 0 - 1)))))) ⟨hx, hb, hml, hown, hts⟩ (c_X10_hasSeal l g τ (ma 2) R hI ((g1 / 1000) % 100) ⟨by omega, by omega⟩) gX10_command_X10_hasSeal cd_X10_hasSeal rfl ⟨rfl, rfl⟩ ⟨Nat.le_of_ble_eq_true rfl, Nat.le_of_ble_eq_true rfl⟩ hK (cut_P (is := [1]) hP rfl) rfl hl rfl (Nat.le_of_ble_eq_true rfl) dX10_command_294 ⟨Nat.le_of_ble_eq_true rfl, Nat.le_of_ble_eq_true rfl⟩ ?_
      refine tl_some ?_
      refine zb_if_eq (tgt := 318) hx hb dX10_command_297 (by decide) (fun c_19 => ?_) (fun c_19 => ?_)
      · have cd_c_19 := of_decide_eq_false c_19
        refine lv_iconst (v := iI 0) hx hb dX10_command_318 (by decide) ?_
        exact rw_zret hx hb hr hlocks hP hS (by (have hq : qCmd R g1 = (false, R) := (by unfold qCmd; rw [if_neg (by omega), if_neg (by omega), if_neg (by omega), if_neg (by omega), if_neg (by omega), if_neg (by omega), if_neg (by omega), if_neg (by omega), if_pos (by omega)] <;> first | (rw [if_pos (by omega)]; unfold qA; first | rfl | (exact congrArg (fun z => (z, _)) (decide_eq_true (by assumption))) | (exact congrArg (fun z => (z, _)) (decide_eq_false (by assumption))) | (exact congrArg (fun z => (z, _)) (by assumption)) | (exact congrArg (fun z => (z, _)) (decide_eq_true (by omega))) | (exact congrArg (fun z => (z, _)) (decide_eq_false (by omega)))) | (rw [if_pos (by omega)]; exact congrArg (fun z => (z, rsR R ((g1 / 10000) % 10))) (by assumption)) | (rw [if_neg (by omega)]) | (unfold qA; rfl) | (exact congrArg (fun z => (z, R)) (decide_eq_true (by omega))) | (exact congrArg (fun z => (z, R)) (decide_eq_false (by omega))) | rfl)); rw [hq]; exact ⟨⟨rfl, _, _, AG_r _, rfl⟩, by first | exact ⟨_, iI_b2 _⟩ | exact ⟨false, rfl⟩ | exact ⟨true, rfl⟩⟩) dX10_command_319
      · have cd_c_19 := of_decide_eq_true c_19
        refine lv_aload_n hx hb dX10_command_300 rfl (lv_at hl 5 rfl) ?_
        refine lv_aload_n hx hb dX10_command_301 rfl (lv_at hl 5 rfl) ?_
        refine va_get (D := g) (ci := 10) (v := Value.ref (ma 2)) (C := RX10) (T := TX10) (N := 18) hx hb hts in_X10_command_X10 hown hK.1 hP 0 (rfl) rfl 2 (by decide) (hts _ (List.mem_of_getElem? (i := 2) rfl) : (Cond.fieldLink RX10 13 "CordSealsModel" "trial" "[I").before _ s = true) (fun _ h9 => h9) rfl dX10_command_302 ?_
        refine lv_iload_n hx hb dX10_command_305 rfl (lv_at hl 3 rfl) ?_
        refine cv_i (y := iI ((((g1 / 1000) % 100).toNat : Nat) : Int)) (congrArg iI (by omega)) ?_
        refine rw_V (As := [Value.ref (ma 2), Value.int (iI ((((g1 / 1000) % 100).toNat : Nat) : Int))]) (rest := []) ⟨hx, hb, hml, hown, hts⟩ (c_X10_fake l g τ ma M (ma 2) R hI (((g1 / 1000) % 100).toNat) (by omega)) gX10_command_X10_fake cd_X10_fake rfl rfl ⟨rfl, rfl⟩ ⟨Nat.le_of_ble_eq_true rfl, Nat.le_of_ble_eq_true rfl⟩ hK hP hD hS [0, 1] (rfl) (by decide) 0 rfl rfl rfl rfl hl rfl (Nat.le_of_ble_eq_true rfl) dX10_command_306 ⟨Nat.le_of_ble_eq_true rfl, Nat.le_of_ble_eq_true rfl⟩ (fun v w h => by obtain ⟨-, M9, -, rfl⟩ := h; rfl) (fun v w1 H locs hZ hP hD hS => ?_)
        obtain ⟨rfl, M_20, hgM_20, rfl⟩ := hZ
        have hP : va_P g vwCl ([moO ma M_20, arC (ma 2) (τ 0) 291 (flR R), arC (ma 17) (τ 0) 6 P0]) H := hP
        have hD : va_D A ([moO ma M_20, arC (ma 2) (τ 0) 291 (flR R), arC (ma 17) (τ 0) 6 P0]) := hD
        have hfM_20_0 : M_20 0 = M 0 := hgM_20 0 (by decide)
        have hfM_20_5 : M_20 5 = M 5 := hgM_20 5 (by decide)
        have hfM_20_9 : M_20 9 = M 9 := hgM_20 9 (by decide)
        have hfM_20_10 : M_20 10 = M 10 := hgM_20 10 (by decide)
        have hfM_20_11 : M_20 11 = M 11 := hgM_20 11 (by decide)
        have hfM_20_12 : M_20 12 = M 12 := hgM_20 12 (by decide)
        have := rFk_b R (((g1 / 1000) % 100).toNat)
        refine tl_some ?_
        refine lv_iload hx hb dX10_command_309 (lv_at hl 0 rfl) ?_
        refine zi_icmp_ne (tgt := 318) hx hb ⟨by omega, by omega⟩ ⟨by omega, by omega⟩ dX10_command_311 (by decide) (fun c_21 => ?_) (fun c_21 => ?_)
        · have _ := c_21
          refine lv_iconst (v := iI 0) hx hb dX10_command_318 (by decide) ?_
          exact rw_zret hx hb hr hlocks hP hS (by (have hq : qCmd R g1 = (false, R) := (by unfold qCmd; rw [if_neg (by omega), if_neg (by omega), if_neg (by omega), if_neg (by omega), if_neg (by omega), if_neg (by omega), if_neg (by omega), if_neg (by omega), if_pos (by omega)] <;> first | (rw [if_pos (by omega)]; unfold qA; first | rfl | (exact congrArg (fun z => (z, _)) (decide_eq_true (by assumption))) | (exact congrArg (fun z => (z, _)) (decide_eq_false (by assumption))) | (exact congrArg (fun z => (z, _)) (by assumption)) | (exact congrArg (fun z => (z, _)) (decide_eq_true (by omega))) | (exact congrArg (fun z => (z, _)) (decide_eq_false (by omega)))) | (rw [if_pos (by omega)]; exact congrArg (fun z => (z, rsR R ((g1 / 10000) % 10))) (by assumption)) | (rw [if_neg (by omega)]) | (unfold qA; rfl) | (exact congrArg (fun z => (z, R)) (decide_eq_true (by omega))) | (exact congrArg (fun z => (z, R)) (decide_eq_false (by omega))) | rfl)); rw [hq]; exact ⟨⟨rfl, _, _, AG_t (AG_r _) hgM_20, rfl⟩, by first | exact ⟨_, iI_b2 _⟩ | exact ⟨false, rfl⟩ | exact ⟨true, rfl⟩⟩) dX10_command_319
        · have _ := c_21
          refine lv_iconst (v := iI 1) hx hb dX10_command_314 (by decide) ?_
          refine lv_goto (tgt := 319) hx hb dX10_command_315 (by decide) ?_
          exact rw_zret hx hb hr hlocks hP hS (by (have hq : qCmd R g1 = (true, R) := (by unfold qCmd; rw [if_neg (by omega), if_neg (by omega), if_neg (by omega), if_neg (by omega), if_neg (by omega), if_neg (by omega), if_neg (by omega), if_neg (by omega), if_pos (by omega)] <;> first | (rw [if_pos (by omega)]; unfold qA; first | rfl | (exact congrArg (fun z => (z, _)) (decide_eq_true (by assumption))) | (exact congrArg (fun z => (z, _)) (decide_eq_false (by assumption))) | (exact congrArg (fun z => (z, _)) (by assumption)) | (exact congrArg (fun z => (z, _)) (decide_eq_true (by omega))) | (exact congrArg (fun z => (z, _)) (decide_eq_false (by omega)))) | (rw [if_pos (by omega)]; exact congrArg (fun z => (z, rsR R ((g1 / 10000) % 10))) (by assumption)) | (rw [if_neg (by omega)]) | (unfold qA; rfl) | (exact congrArg (fun z => (z, R)) (decide_eq_true (by omega))) | (exact congrArg (fun z => (z, R)) (decide_eq_false (by omega))) | rfl)); rw [hq]; exact ⟨⟨rfl, _, _, AG_t (AG_r _) hgM_20, rfl⟩, by first | exact ⟨_, iI_b2 _⟩ | exact ⟨false, rfl⟩ | exact ⟨true, rfl⟩⟩) dX10_command_319
  refine zi_tablD (x := g1 / 100000) (tgt := 320) ⟨by omega, by omega⟩ hx hb dX10_command_44 (by omega) (by decide) ?_
  refine lv_iconst (v := iI 0) hx hb dX10_command_320 (by decide) ?_
  exact rw_zret hx hb hr hlocks hP hS (by (have hq : qCmd R g1 = (false, R) := (by unfold qCmd; rw [if_neg (by omega), if_neg (by omega), if_neg (by omega), if_neg (by omega), if_neg (by omega), if_neg (by omega), if_neg (by omega), if_neg (by omega), if_neg (by omega)] <;> first | (rw [if_pos (by omega)]; unfold qA; first | rfl | (exact congrArg (fun z => (z, _)) (decide_eq_true (by assumption))) | (exact congrArg (fun z => (z, _)) (decide_eq_false (by assumption))) | (exact congrArg (fun z => (z, _)) (by assumption)) | (exact congrArg (fun z => (z, _)) (decide_eq_true (by omega))) | (exact congrArg (fun z => (z, _)) (decide_eq_false (by omega)))) | (rw [if_pos (by omega)]; exact congrArg (fun z => (z, rsR R ((g1 / 10000) % 10))) (by assumption)) | (rw [if_neg (by omega)]) | (unfold qA; rfl) | (exact congrArg (fun z => (z, R)) (decide_eq_true (by omega))) | (exact congrArg (fun z => (z, R)) (decide_eq_false (by omega))) | rfl)); rw [hq]; exact ⟨⟨rfl, _, _, AG_r _, rfl⟩, by first | exact ⟨_, iI_b2 _⟩ | exact ⟨false, rfl⟩ | exact ⟨true, rfl⟩⟩) dX10_command_321
