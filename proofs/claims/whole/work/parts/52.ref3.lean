/-! where a seal hangs on a shelf, as the reference counts -/
def rPl (R : Nat → Nat → Int) (h : Nat) (z : Int) : Nat → Int
  | 0 => -1
  | k + 1 => if R 19 (h * 6 + k) = z then (k : Int) else rPl R h z k
theorem rPl_b (R : Nat → Nat → Int) (h : Nat) (z : Int) : ∀ n : Nat, -1 ≤ rPl R h z n ∧ rPl R h z n < (n : Int)
  | 0 => by show -1 ≤ (-1 : Int) ∧ (-1 : Int) < ((0 : Nat) : Int); decide
  | k + 1 => by
    have := rPl_b R h z k
    unfold rPl
    split <;> omega
def rSh (R : Nat → Nat → Int) (z : Int) : Nat → Int
  | 0 => -1
  | h + 1 => if rPl R h z (R 18 h).toNat = -1 then rSh R z h else (h : Int)
theorem rSh_b (R : Nat → Nat → Int) (z : Int) : ∀ n : Nat, -1 ≤ rSh R z n ∧ rSh R z n < (n : Int)
  | 0 => by show -1 ≤ (-1 : Int) ∧ (-1 : Int) < ((0 : Nat) : Int); decide
  | k + 1 => by
    have := rSh_b R z k
    unfold rSh
    split <;> omega
def rOth (R : Nat → Nat → Int) (z : Int) (h : Nat) : Int := R 18 h - (if rSh R z 6 = (h : Int) then 1 else 0)
def rCk (R : Nat → Nat → Int) (d : Nat) (y : Int) : Nat → Bool
  | 0 => decide (R 8 d < 4)
  | k + 1 => rCk R d y k && decide (¬ R 9 (d * 4 + k) = y)

theorem cd_X10_placeOn : cd yX10_placeOn 3 := by decide +kernel
set_option maxHeartbeats 1000000 in
set_option maxRecDepth 100000 in
theorem c_X10_placeOn (l : Launch) (g : va_G) (τ : Nat → ClassId) (fa : Nat) (R : Nat → Nat → Int) (hI : SI R) (z : Int) (hz : -2147483648 ≤ z ∧ z < 2147483648) (h1 : Nat) (hh : h1 < 6)  : Met l yX10_placeOn wsX10_placeOn { frames := 0, cells := 0, slots := 0, locals := 0 } (va_Pc [Value.ref fa, Value.int (iI z), Value.int (iI (h1 : Int))] (roW g τ (flW fa R τ))) (roQ (some (Value.int (iI (rPl R h1 z (R 18 h1).toNat))))) 0 0 nof := by
  have hB := hI.hB
  have hr0 := hI.r
  have hd0 := hI.d
  have hs0 := hI.s
  have hN := hI.hN h1 hh
  refine roMet (cc := cX10_placeOn) (maxL := 5) (ret := (some .int)) (lv := [(0, Value.ref fa), (1, Value.int (iI z)), (2, Value.int (iI (h1 : Int)))]) (by decide) rfl (Nat.le_of_ble_eq_true rfl) rfl ?_
  intro p e s m below meth c hx hb hr hml hts hown hlocks hP hK ls hl
  refine lv_iconst (v := iI (-1)) hx hb dX10_placeOn_0 (by decide) ?_
  refine lv_istore_n (lv' := [(3, Value.int (iI (-1))), (0, Value.ref fa), (1, Value.int (iI z)), (2, Value.int (iI (h1 : Int)))]) hx hb dX10_placeOn_1 rfl hl (by decide) rfl (fun ls hl => ?_)
  refine lv_iconst (v := iI 0) hx hb dX10_placeOn_2 (by decide) ?_
  refine lv_istore (lv' := [(4, Value.int (iI 0)), (3, Value.int (iI (-1))), (0, Value.ref fa), (1, Value.int (iI z)), (2, Value.int (iI (h1 : Int)))]) hx hb dX10_placeOn_3 hl (by decide) rfl (fun ls hl => ?_)
  have h0_1 : rPl R h1 z 0 = (-1) := by first | rfl | omega | (simp []; done)
  refine lp_up (fun i => [(4, Value.int (iI (i : Int))), (3, Value.int (iI (rPl R h1 z i))), (0, Value.ref fa), (1, Value.int (iI z)), (2, Value.int (iI (h1 : Int)))]) (fun i => True) ((R 18 h1).toNat) (0) (by omega) (by first | trivial | (intro j hj; omega)) (lv_eq (lv_sub hl [0, 1, 2, 3, 4] rfl) (by show [(4, Value.int (iI 0)), (3, Value.int (iI (rPl R h1 z 0))), (0, Value.ref fa), (1, Value.int (iI z)), (2, Value.int (iI (h1 : Int)))] = [(4, Value.int (iI 0)), (3, Value.int (iI (-1))), (0, Value.ref fa), (1, Value.int (iI z)), (2, Value.int (iI (h1 : Int)))]; rw [h0_1])) (fun i h0_i hi_i hI_i ih_5 ls hl => ?_)
  refine lv_iload hx hb dX10_placeOn_5 (lv_at hl 0 rfl) ?_
  refine lv_aload_n hx hb dX10_placeOn_7 rfl (lv_at hl 2 rfl) ?_
  refine lv_sipush (v := iI 249) hx hb dX10_placeOn_8 (by decide) ?_
  refine lv_iload_n hx hb dX10_placeOn_11 rfl (lv_at hl 4 rfl) ?_
  refine zi_add hx hb dX10_placeOn_12 ?_
  refine zf_ald hx hb hK hP 0 (f := flR R) rfl (249 + h1) (by omega) (by omega) (by decide) (z := R 18 h1) (fl_18 (i := h1) (by omega) (by omega)) dX10_placeOn_13 ?_
  have hb_2 := hB 18 h1
  refine zi_icmp_ge (tgt := 47) hx hb ⟨by omega, by omega⟩ ⟨by omega, by omega⟩ dX10_placeOn_14 (by decide) (fun c_3 => ?_) (fun c_3 => ?_)
  · have _ := c_3
    have h0_i : i = (R 18 h1).toNat := by omega
    refine lv_iload_n hx hb dX10_placeOn_47 rfl (lv_at hl 1 rfl) ?_
    exact zo_iret hx hb hr hlocks (by rw [h0_i]) dX10_placeOn_48
  · have _ := c_3
    have hl_i : i < (R 18 h1).toNat := by omega
    refine lv_aload_n hx hb dX10_placeOn_17 rfl (lv_at hl 2 rfl) ?_
    refine lv_sipush (v := iI 255) hx hb dX10_placeOn_18 (by decide) ?_
    refine lv_bipush (v := iI 6) hx hb dX10_placeOn_21 (by decide) ?_
    refine lv_iload_n hx hb dX10_placeOn_23 rfl (lv_at hl 4 rfl) ?_
    refine zi_mul hx hb dX10_placeOn_24 ?_
    refine zi_add hx hb dX10_placeOn_25 ?_
    refine lv_iload hx hb dX10_placeOn_26 (lv_at hl 0 rfl) ?_
    refine zi_add hx hb dX10_placeOn_28 ?_
    refine zf_ald hx hb hK hP 0 (f := flR R) rfl ((255 + (6 * h1)) + i) (by omega) (by omega) (by decide) (z := R 19 (h1 * 6 + i)) (fl_19 (i := h1 * 6 + i) (by omega) (by omega)) dX10_placeOn_29 ?_
    have hb_4 := hB 19 (h1 * 6 + i)
    refine lv_iload_n hx hb dX10_placeOn_30 rfl (lv_at hl 3 rfl) ?_
    refine zi_icmp_ne (tgt := 39) hx hb ⟨by omega, by omega⟩ ⟨by omega, by omega⟩ dX10_placeOn_31 (by decide) (fun c_5 => ?_) (fun c_5 => ?_)
    · have _ := c_5
      refine lv_iload_n hx hb dX10_placeOn_39 rfl (lv_at hl 1 rfl) ?_
      refine lv_istore_n (lv' := [(3, Value.int (iI (rPl R h1 z i))), (4, Value.int (iI (i : Int))), (0, Value.ref fa), (1, Value.int (iI z)), (2, Value.int (iI (h1 : Int)))]) hx hb dX10_placeOn_40 rfl hl (by decide) rfl (fun ls hl => ?_)
      refine zi_inc (v := ((i + 1 : Nat) : Int)) (lv' := [(4, Value.int (iI ((i + 1 : Nat) : Int))), (3, Value.int (iI (rPl R h1 z i))), (0, Value.ref fa), (1, Value.int (iI z)), (2, Value.int (iI (h1 : Int)))]) hx hb dX10_placeOn_41 hl (k := 1) rfl (by omega) (by decide) rfl (fun ls hl => ?_)
      refine lv_goto (tgt := 5) hx hb dX10_placeOn_44 (by decide) ?_
      have hb_6 : (((i + 1) : Nat) : Int) = ((i + 1 : Nat) : Int) := by first | rfl | omega | (simp [c_3, c_5]; done)
      have hb_7 : rPl R h1 z (i + 1) = rPl R h1 z i := by first | (rw [rPl, if_pos (by omega)]) | (rw [rPl, if_neg (by omega)])
      exact ih_5 hl_i (trivial) _ (lv_eq (lv_sub hl [0, 1, 2, 3, 4] rfl) (by show [(4, Value.int (iI (((i + 1) : Nat) : Int))), (3, Value.int (iI (rPl R h1 z (i + 1)))), (0, Value.ref fa), (1, Value.int (iI z)), (2, Value.int (iI (h1 : Int)))] = [(4, Value.int (iI ((i + 1 : Nat) : Int))), (3, Value.int (iI (rPl R h1 z i))), (0, Value.ref fa), (1, Value.int (iI z)), (2, Value.int (iI (h1 : Int)))]; rw [hb_6, hb_7]))
    · have _ := c_5
      refine lv_iload hx hb dX10_placeOn_34 (lv_at hl 0 rfl) ?_
      refine lv_goto (tgt := 40) hx hb dX10_placeOn_36 (by decide) ?_
      refine lv_istore_n (lv' := [(3, Value.int (iI (i : Int))), (4, Value.int (iI (i : Int))), (0, Value.ref fa), (1, Value.int (iI z)), (2, Value.int (iI (h1 : Int)))]) hx hb dX10_placeOn_40 rfl hl (by decide) rfl (fun ls hl => ?_)
      refine zi_inc (v := ((i + 1 : Nat) : Int)) (lv' := [(4, Value.int (iI ((i + 1 : Nat) : Int))), (3, Value.int (iI (i : Int))), (0, Value.ref fa), (1, Value.int (iI z)), (2, Value.int (iI (h1 : Int)))]) hx hb dX10_placeOn_41 hl (k := 1) rfl (by omega) (by decide) rfl (fun ls hl => ?_)
      refine lv_goto (tgt := 5) hx hb dX10_placeOn_44 (by decide) ?_
      have hb_8 : (((i + 1) : Nat) : Int) = ((i + 1 : Nat) : Int) := by first | rfl | omega | (simp [c_3, c_5]; done)
      have hb_9 : rPl R h1 z (i + 1) = (i : Int) := by first | (rw [rPl, if_pos (by omega)]) | (rw [rPl, if_neg (by omega)])
      exact ih_5 hl_i (trivial) _ (lv_eq (lv_sub hl [0, 1, 2, 3, 4] rfl) (by show [(4, Value.int (iI (((i + 1) : Nat) : Int))), (3, Value.int (iI (rPl R h1 z (i + 1)))), (0, Value.ref fa), (1, Value.int (iI z)), (2, Value.int (iI (h1 : Int)))] = [(4, Value.int (iI ((i + 1 : Nat) : Int))), (3, Value.int (iI (i : Int))), (0, Value.ref fa), (1, Value.int (iI z)), (2, Value.int (iI (h1 : Int)))]; rw [hb_8, hb_9]))

theorem cd_X10_shelfOf : cd yX10_shelfOf 2 := by decide +kernel
set_option maxHeartbeats 1000000 in
set_option maxRecDepth 100000 in
theorem c_X10_shelfOf (l : Launch) (g : va_G) (τ : Nat → ClassId) (fa : Nat) (R : Nat → Nat → Int) (hI : SI R) (z : Int) (hz : -2147483648 ≤ z ∧ z < 2147483648)  : Met l yX10_shelfOf wsX10_shelfOf { frames := 1, cells := 0, slots := 0, locals := 24 } (va_Pc [Value.ref fa, Value.int (iI z)] (roW g τ (flW fa R τ))) (roQ (some (Value.int (iI (rSh R z 6))))) 0 0 nof := by
  have hB := hI.hB
  have hr0 := hI.r
  have hd0 := hI.d
  have hs0 := hI.s
  refine roMet (cc := cX10_shelfOf) (maxL := 4) (ret := (some .int)) (lv := [(0, Value.ref fa), (1, Value.int (iI z))]) (by decide) rfl (Nat.le_of_ble_eq_true rfl) rfl ?_
  intro p e s m below meth c hx hb hr hml hts hown hlocks hP hK ls hl
  refine lv_iconst (v := iI (-1)) hx hb dX10_shelfOf_0 (by decide) ?_
  refine lv_istore_n (lv' := [(2, Value.int (iI (-1))), (0, Value.ref fa), (1, Value.int (iI z))]) hx hb dX10_shelfOf_1 rfl hl (by decide) rfl (fun ls hl => ?_)
  refine lv_iconst (v := iI 0) hx hb dX10_shelfOf_2 (by decide) ?_
  refine lv_istore_n (lv' := [(3, Value.int (iI 0)), (2, Value.int (iI (-1))), (0, Value.ref fa), (1, Value.int (iI z))]) hx hb dX10_shelfOf_3 rfl hl (by decide) rfl (fun ls hl => ?_)
  have h0_1 : rSh R z 0 = (-1) := by first | rfl | omega | (simp []; done)
  refine lp_up (fun i => [(3, Value.int (iI (i : Int))), (2, Value.int (iI (rSh R z i))), (0, Value.ref fa), (1, Value.int (iI z))]) (fun i => True) (6) (0) (by omega) (by first | trivial | (intro j hj; omega)) (lv_eq (lv_sub hl [0, 1, 2, 3] rfl) (by show [(3, Value.int (iI 0)), (2, Value.int (iI (rSh R z 0))), (0, Value.ref fa), (1, Value.int (iI z))] = [(3, Value.int (iI 0)), (2, Value.int (iI (-1))), (0, Value.ref fa), (1, Value.int (iI z))]; rw [h0_1])) (fun i h0_i hi_i hI_i ih_4 ls hl => ?_)
  refine lv_iload_n hx hb dX10_shelfOf_4 rfl (lv_at hl 0 rfl) ?_
  refine lv_bipush (v := iI 6) hx hb dX10_shelfOf_5 (by decide) ?_
  refine zi_icmp_ge (tgt := 32) hx hb ⟨by omega, by omega⟩ ⟨by decide, by decide⟩ dX10_shelfOf_7 (by decide) (fun c_2 => ?_) (fun c_2 => ?_)
  · have _ := c_2
    have h0_i : i = 6 := by omega
    refine lv_iload_n hx hb dX10_shelfOf_32 rfl (lv_at hl 1 rfl) ?_
    exact zo_iret hx hb hr hlocks (by rw [h0_i]) dX10_shelfOf_33
  · have _ := c_2
    have hl_i : i < 6 := by omega
    refine lv_aload_n hx hb dX10_shelfOf_10 rfl (lv_at hl 2 rfl) ?_
    refine lv_iload_n hx hb dX10_shelfOf_11 rfl (lv_at hl 3 rfl) ?_
    refine lv_iload_n hx hb dX10_shelfOf_12 rfl (lv_at hl 0 rfl) ?_
    refine ro_S (As := [Value.ref fa, Value.int (iI z), Value.int (iI (i : Int))]) (rest := []) (v := some (Value.int (iI (rPl R i z (R 18 i).toNat)))) ⟨hx, hb, hml, hown, hts⟩ (c_X10_placeOn l g τ fa R hI z ⟨by omega, by omega⟩ i (by omega)) gX10_shelfOf_X10_placeOn cd_X10_placeOn rfl ⟨rfl, rfl⟩ ⟨Nat.le_of_ble_eq_true rfl, Nat.le_of_ble_eq_true rfl⟩ hK hP rfl hl rfl (Nat.le_of_ble_eq_true rfl) dX10_shelfOf_13 ⟨Nat.le_of_ble_eq_true rfl, Nat.le_of_ble_eq_true rfl⟩ ?_
    refine tl_some ?_
    have hrp := rPl_b R i z (R 18 i).toNat
    have hrn := hI.hN i (by omega)
    refine lv_iconst (v := iI (-1)) hx hb dX10_shelfOf_16 (by decide) ?_
    refine zi_icmp_ne (tgt := 24) hx hb ⟨by omega, by omega⟩ ⟨by decide, by decide⟩ dX10_shelfOf_17 (by decide) (fun c_3 => ?_) (fun c_3 => ?_)
    · have _ := c_3
      refine lv_iload_n hx hb dX10_shelfOf_24 rfl (lv_at hl 0 rfl) ?_
      refine lv_istore_n (lv' := [(2, Value.int (iI (i : Int))), (3, Value.int (iI (i : Int))), (0, Value.ref fa), (1, Value.int (iI z))]) hx hb dX10_shelfOf_25 rfl hl (by decide) rfl (fun ls hl => ?_)
      refine zi_inc (v := ((i + 1 : Nat) : Int)) (lv' := [(3, Value.int (iI ((i + 1 : Nat) : Int))), (2, Value.int (iI (i : Int))), (0, Value.ref fa), (1, Value.int (iI z))]) hx hb dX10_shelfOf_26 hl (k := 1) rfl (by omega) (by decide) rfl (fun ls hl => ?_)
      refine lv_goto (tgt := 4) hx hb dX10_shelfOf_29 (by decide) ?_
      have hb_4 : (((i + 1) : Nat) : Int) = ((i + 1 : Nat) : Int) := by first | rfl | omega | (simp [c_2, c_3]; done)
      have hb_5 : rSh R z (i + 1) = (i : Int) := by first | (rw [rSh, if_pos (by omega)]) | (rw [rSh, if_neg (by omega)])
      exact ih_4 hl_i (trivial) _ (lv_eq (lv_sub hl [0, 1, 2, 3] rfl) (by show [(3, Value.int (iI (((i + 1) : Nat) : Int))), (2, Value.int (iI (rSh R z (i + 1)))), (0, Value.ref fa), (1, Value.int (iI z))] = [(3, Value.int (iI ((i + 1 : Nat) : Int))), (2, Value.int (iI (i : Int))), (0, Value.ref fa), (1, Value.int (iI z))]; rw [hb_4, hb_5]))
    · have _ := c_3
      refine lv_iload_n hx hb dX10_shelfOf_20 rfl (lv_at hl 1 rfl) ?_
      refine lv_goto (tgt := 25) hx hb dX10_shelfOf_21 (by decide) ?_
      refine lv_istore_n (lv' := [(2, Value.int (iI (rSh R z i))), (3, Value.int (iI (i : Int))), (0, Value.ref fa), (1, Value.int (iI z))]) hx hb dX10_shelfOf_25 rfl hl (by decide) rfl (fun ls hl => ?_)
      refine zi_inc (v := ((i + 1 : Nat) : Int)) (lv' := [(3, Value.int (iI ((i + 1 : Nat) : Int))), (2, Value.int (iI (rSh R z i))), (0, Value.ref fa), (1, Value.int (iI z))]) hx hb dX10_shelfOf_26 hl (k := 1) rfl (by omega) (by decide) rfl (fun ls hl => ?_)
      refine lv_goto (tgt := 4) hx hb dX10_shelfOf_29 (by decide) ?_
      have hb_6 : (((i + 1) : Nat) : Int) = ((i + 1 : Nat) : Int) := by first | rfl | omega | (simp [c_2, c_3]; done)
      have hb_7 : rSh R z (i + 1) = rSh R z i := by first | (rw [rSh, if_pos (by omega)]) | (rw [rSh, if_neg (by omega)])
      exact ih_4 hl_i (trivial) _ (lv_eq (lv_sub hl [0, 1, 2, 3] rfl) (by show [(3, Value.int (iI (((i + 1) : Nat) : Int))), (2, Value.int (iI (rSh R z (i + 1)))), (0, Value.ref fa), (1, Value.int (iI z))] = [(3, Value.int (iI ((i + 1 : Nat) : Int))), (2, Value.int (iI (rSh R z i))), (0, Value.ref fa), (1, Value.int (iI z))]; rw [hb_6, hb_7]))

theorem cd_X10_others : cd yX10_others 3 := by decide +kernel
set_option maxHeartbeats 1000000 in
set_option maxRecDepth 100000 in
theorem c_X10_others (l : Launch) (g : va_G) (τ : Nat → ClassId) (fa : Nat) (R : Nat → Nat → Int) (hI : SI R) (z : Int) (hz : -2147483648 ≤ z ∧ z < 2147483648) (h1 : Nat) (hh : h1 < 6)  : Met l yX10_others wsX10_others { frames := 2, cells := 0, slots := 0, locals := 47 } (va_Pc [Value.ref fa, Value.int (iI z), Value.int (iI (h1 : Int))] (roW g τ (flW fa R τ))) (roQ (some (Value.int (iI (rOth R z h1))))) 0 0 nof := by
  have hB := hI.hB
  have hr0 := hI.r
  have hd0 := hI.d
  have hs0 := hI.s
  have hN := hI.hN h1 hh
  refine roMet (cc := cX10_others) (maxL := 3) (ret := (some .int)) (lv := [(0, Value.ref fa), (1, Value.int (iI z)), (2, Value.int (iI (h1 : Int)))]) (by decide) rfl (Nat.le_of_ble_eq_true rfl) rfl ?_
  intro p e s m below meth c hx hb hr hml hts hown hlocks hP hK ls hl
  refine lv_aload_n hx hb dX10_others_0 rfl (lv_at hl 0 rfl) ?_
  refine lv_sipush (v := iI 249) hx hb dX10_others_1 (by decide) ?_
  refine lv_iload_n hx hb dX10_others_4 rfl (lv_at hl 2 rfl) ?_
  refine zi_add hx hb dX10_others_5 ?_
  refine zf_ald hx hb hK hP 0 (f := flR R) rfl (249 + h1) (by omega) (by omega) (by decide) (z := R 18 h1) (fl_18 (i := h1) (by omega) (by omega)) dX10_others_6 ?_
  have hb_1 := hB 18 h1
  refine jn (F0 m 21 ls (Value.int (iI (if rSh R z 6 = (h1 : Int) then 1 else 0)) :: Value.int (iI (R 18 h1)) :: [])) ?_ (fun K => ?_)
  · skip
    refine zi_sub hx hb dX10_others_21 ?_
    exact zo_iret hx hb hr hlocks (rfl) dX10_others_22
  · skip
    refine lv_aload_n hx hb dX10_others_7 rfl (lv_at hl 0 rfl) ?_
    refine lv_iload_n hx hb dX10_others_8 rfl (lv_at hl 1 rfl) ?_
    refine ro_S (As := [Value.ref fa, Value.int (iI z)]) (rest := [Value.int (iI (R 18 h1))]) (v := some (Value.int (iI (rSh R z 6)))) ⟨hx, hb, hml, hown, hts⟩ (c_X10_shelfOf l g τ fa R hI z ⟨by omega, by omega⟩) gX10_others_X10_shelfOf cd_X10_shelfOf rfl ⟨rfl, rfl⟩ ⟨Nat.le_of_ble_eq_true rfl, Nat.le_of_ble_eq_true rfl⟩ hK hP rfl hl rfl (Nat.le_of_ble_eq_true rfl) dX10_others_9 ⟨Nat.le_of_ble_eq_true rfl, Nat.le_of_ble_eq_true rfl⟩ ?_
    refine tl_some ?_
    have hrs := rSh_b R z 6
    refine lv_iload_n hx hb dX10_others_12 rfl (lv_at hl 2 rfl) ?_
    refine zi_icmp_ne (tgt := 20) hx hb ⟨by omega, by omega⟩ ⟨by omega, by omega⟩ dX10_others_13 (by decide) (fun c_2 => ?_) (fun c_2 => ?_)
    · have _ := c_2
      refine lv_iconst (v := iI 0) hx hb dX10_others_20 (by decide) ?_
      exact cv_i (congrArg iI (Eq.symm (show (if rSh R z 6 = (h1 : Int) then 1 else 0) = 0 from by first | rw [if_pos (by omega)] | rw [if_neg (by omega)]))) K
    · have _ := c_2
      refine lv_iconst (v := iI 1) hx hb dX10_others_16 (by decide) ?_
      refine lv_goto (tgt := 21) hx hb dX10_others_17 (by decide) ?_
      exact cv_i (congrArg iI (Eq.symm (show (if rSh R z 6 = (h1 : Int) then 1 else 0) = 1 from by first | rw [if_pos (by omega)] | rw [if_neg (by omega)]))) K

theorem cd_X10_onCharter : cd yX10_onCharter 2 := by decide +kernel
set_option maxHeartbeats 1000000 in
set_option maxRecDepth 100000 in
theorem c_X10_onCharter (l : Launch) (g : va_G) (τ : Nat → ClassId) (fa : Nat) (R : Nat → Nat → Int) (hI : SI R) (z : Int) (hz : -2147483648 ≤ z ∧ z < 2147483648)  : Met l yX10_onCharter wsX10_onCharter { frames := 0, cells := 0, slots := 0, locals := 0 } (va_Pc [Value.ref fa, Value.int (iI z)] (roW g τ (flW fa R τ))) (roQ (some (Value.int (iI (cnt (fun s => decide (R 16 s = z)) (R 10 0).toNat))))) 0 0 nof := by
  have hB := hI.hB
  have hr0 := hI.r
  have hd0 := hI.d
  have hs0 := hI.s
  refine roMet (cc := cX10_onCharter) (maxL := 4) (ret := (some .int)) (lv := [(0, Value.ref fa), (1, Value.int (iI z))]) (by decide) rfl (Nat.le_of_ble_eq_true rfl) rfl ?_
  intro p e s m below meth c hx hb hr hml hts hown hlocks hP hK ls hl
  refine lv_iconst (v := iI 0) hx hb dX10_onCharter_0 (by decide) ?_
  refine lv_istore_n (lv' := [(2, Value.int (iI 0)), (0, Value.ref fa), (1, Value.int (iI z))]) hx hb dX10_onCharter_1 rfl hl (by decide) rfl (fun ls hl => ?_)
  refine lv_iconst (v := iI 0) hx hb dX10_onCharter_2 (by decide) ?_
  refine lv_istore_n (lv' := [(3, Value.int (iI 0)), (2, Value.int (iI 0)), (0, Value.ref fa), (1, Value.int (iI z))]) hx hb dX10_onCharter_3 rfl hl (by decide) rfl (fun ls hl => ?_)
  have h0_1 : cnt (fun s => decide (R 16 s = z)) 0 = 0 := by first | rfl | omega | (simp [cnt]; done)
  refine lp_up (fun i => [(3, Value.int (iI (i : Int))), (2, Value.int (iI (cnt (fun s => decide (R 16 s = z)) i))), (0, Value.ref fa), (1, Value.int (iI z))]) (fun i => True) ((R 10 0).toNat) (0) (by omega) (by first | trivial | (intro j hj; omega)) (lv_eq (lv_sub hl [0, 1, 2, 3] rfl) (by show [(3, Value.int (iI 0)), (2, Value.int (iI (cnt (fun s => decide (R 16 s = z)) 0))), (0, Value.ref fa), (1, Value.int (iI z))] = [(3, Value.int (iI 0)), (2, Value.int (iI 0)), (0, Value.ref fa), (1, Value.int (iI z))]; rw [h0_1])) (fun i h0_i hi_i hI_i ih_4 ls hl => ?_)
  refine lv_iload_n hx hb dX10_onCharter_4 rfl (lv_at hl 0 rfl) ?_
  refine lv_aload_n hx hb dX10_onCharter_5 rfl (lv_at hl 2 rfl) ?_
  refine lv_iconst (v := iI 2) hx hb dX10_onCharter_6 (by decide) ?_
  refine zf_ald hx hb hK hP 0 (f := flR R) rfl (2) (rfl) (by omega) (by decide) (z := R 10 0) (fl_10) dX10_onCharter_7 ?_
  have hb_2 := hB 10 0
  refine zi_icmp_ge (tgt := 36) hx hb ⟨by omega, by omega⟩ ⟨by omega, by omega⟩ dX10_onCharter_8 (by decide) (fun c_3 => ?_) (fun c_3 => ?_)
  · have _ := c_3
    have h0_i : i = (R 10 0).toNat := by omega
    refine lv_iload_n hx hb dX10_onCharter_36 rfl (lv_at hl 1 rfl) ?_
    exact zo_iret hx hb hr hlocks (by rw [h0_i]) dX10_onCharter_37
  · have _ := c_3
    have hl_i : i < (R 10 0).toNat := by omega
    refine lv_iload_n hx hb dX10_onCharter_11 rfl (lv_at hl 1 rfl) ?_
    refine lv_aload_n hx hb dX10_onCharter_12 rfl (lv_at hl 2 rfl) ?_
    refine lv_sipush (v := iI 225) hx hb dX10_onCharter_13 (by decide) ?_
    refine lv_iload_n hx hb dX10_onCharter_16 rfl (lv_at hl 0 rfl) ?_
    refine zi_add hx hb dX10_onCharter_17 ?_
    refine zf_ald hx hb hK hP 0 (f := flR R) rfl (225 + i) (by omega) (by omega) (by decide) (z := R 16 i) (fl_16 (i := i) (by omega) (by omega)) dX10_onCharter_18 ?_
    have hb_4 := hB 16 i
    refine lv_iload_n hx hb dX10_onCharter_19 rfl (lv_at hl 3 rfl) ?_
    refine zi_icmp_ne (tgt := 27) hx hb ⟨by omega, by omega⟩ ⟨by omega, by omega⟩ dX10_onCharter_20 (by decide) (fun c_5 => ?_) (fun c_5 => ?_)
    · have _ := c_5
      refine lv_iconst (v := iI 0) hx hb dX10_onCharter_27 (by decide) ?_
      refine zi_add hx hb dX10_onCharter_28 ?_
      refine lv_istore_n (lv' := [(2, Value.int (iI ((cnt (fun s => decide (R 16 s = z)) i) + 0))), (3, Value.int (iI (i : Int))), (0, Value.ref fa), (1, Value.int (iI z))]) hx hb dX10_onCharter_29 rfl hl (by decide) rfl (fun ls hl => ?_)
      refine zi_inc (v := ((i + 1 : Nat) : Int)) (lv' := [(3, Value.int (iI ((i + 1 : Nat) : Int))), (2, Value.int (iI ((cnt (fun s => decide (R 16 s = z)) i) + 0))), (0, Value.ref fa), (1, Value.int (iI z))]) hx hb dX10_onCharter_30 hl (k := 1) rfl (by omega) (by decide) rfl (fun ls hl => ?_)
      refine lv_goto (tgt := 4) hx hb dX10_onCharter_33 (by decide) ?_
      have hb_6 : (((i + 1) : Nat) : Int) = ((i + 1 : Nat) : Int) := by first | rfl | omega | (simp [cnt, c_3, c_5]; done)
      have hb_7 : cnt (fun s => decide (R 16 s = z)) (i + 1) = (cnt (fun s => decide (R 16 s = z)) i) + 0 := by first | rfl | omega | (simp [cnt, c_3, c_5]; done)
      exact ih_4 hl_i (trivial) _ (lv_eq (lv_sub hl [0, 1, 2, 3] rfl) (by show [(3, Value.int (iI (((i + 1) : Nat) : Int))), (2, Value.int (iI (cnt (fun s => decide (R 16 s = z)) (i + 1)))), (0, Value.ref fa), (1, Value.int (iI z))] = [(3, Value.int (iI ((i + 1 : Nat) : Int))), (2, Value.int (iI ((cnt (fun s => decide (R 16 s = z)) i) + 0))), (0, Value.ref fa), (1, Value.int (iI z))]; rw [hb_6, hb_7]))
    · have _ := c_5
      refine lv_iconst (v := iI 1) hx hb dX10_onCharter_23 (by decide) ?_
      refine lv_goto (tgt := 28) hx hb dX10_onCharter_24 (by decide) ?_
      refine zi_add hx hb dX10_onCharter_28 ?_
      refine lv_istore_n (lv' := [(2, Value.int (iI ((cnt (fun s => decide (R 16 s = z)) i) + 1))), (3, Value.int (iI (i : Int))), (0, Value.ref fa), (1, Value.int (iI z))]) hx hb dX10_onCharter_29 rfl hl (by decide) rfl (fun ls hl => ?_)
      refine zi_inc (v := ((i + 1 : Nat) : Int)) (lv' := [(3, Value.int (iI ((i + 1 : Nat) : Int))), (2, Value.int (iI ((cnt (fun s => decide (R 16 s = z)) i) + 1))), (0, Value.ref fa), (1, Value.int (iI z))]) hx hb dX10_onCharter_30 hl (k := 1) rfl (by omega) (by decide) rfl (fun ls hl => ?_)
      refine lv_goto (tgt := 4) hx hb dX10_onCharter_33 (by decide) ?_
      have hb_8 : (((i + 1) : Nat) : Int) = ((i + 1 : Nat) : Int) := by first | rfl | omega | (simp [cnt, c_3, c_5]; done)
      have hb_9 : cnt (fun s => decide (R 16 s = z)) (i + 1) = (cnt (fun s => decide (R 16 s = z)) i) + 1 := by first | rfl | omega | (simp [cnt, c_3, c_5]; done)
      exact ih_4 hl_i (trivial) _ (lv_eq (lv_sub hl [0, 1, 2, 3] rfl) (by show [(3, Value.int (iI (((i + 1) : Nat) : Int))), (2, Value.int (iI (cnt (fun s => decide (R 16 s = z)) (i + 1)))), (0, Value.ref fa), (1, Value.int (iI z))] = [(3, Value.int (iI ((i + 1 : Nat) : Int))), (2, Value.int (iI ((cnt (fun s => decide (R 16 s = z)) i) + 1))), (0, Value.ref fa), (1, Value.int (iI z))]; rw [hb_8, hb_9]))

theorem cd_X10_canReign : cd yX10_canReign 2 := by decide +kernel
set_option maxHeartbeats 1000000 in
set_option maxRecDepth 100000 in
theorem c_X10_canReign (l : Launch) (g : va_G) (τ : Nat → ClassId) (fa : Nat) (R : Nat → Nat → Int) (hI : SI R) (z : Int) (hz : -2147483648 ≤ z ∧ z < 2147483648)  : Met l yX10_canReign wsX10_canReign { frames := 0, cells := 0, slots := 0, locals := 0 } (va_Pc [Value.ref fa, Value.int (iI z)] (roW g τ (flW fa R τ))) (roQ (some (Value.int (iI (zB (decide (R 1 0 < 10 ∧ (R 1 0 = 0 ∨ R 2 ((R 1 0).toNat - 1) < z)))))))) 0 0 nof := by
  have hB := hI.hB
  have hr0 := hI.r
  have hd0 := hI.d
  have hs0 := hI.s
  refine roMet (cc := cX10_canReign) (maxL := 2) (ret := (some .boolean)) (lv := [(0, Value.ref fa), (1, Value.int (iI z))]) (by decide) rfl (Nat.le_of_ble_eq_true rfl) rfl ?_
  intro p e s m below meth c hx hb hr hml hts hown hlocks hP hK ls hl
  refine lv_aload_n hx hb dX10_canReign_0 rfl (lv_at hl 0 rfl) ?_
  refine lv_iconst (v := iI 0) hx hb dX10_canReign_1 (by decide) ?_
  refine zf_ald hx hb hK hP 0 (f := flR R) rfl (0) (rfl) (by omega) (by decide) (z := R 1 0) (fl_1) dX10_canReign_2 ?_
  have hb_1 := hB 1 0
  refine lv_bipush (v := iI 10) hx hb dX10_canReign_3 (by decide) ?_
  refine zi_icmp_ge (tgt := 31) hx hb ⟨by omega, by omega⟩ ⟨by decide, by decide⟩ dX10_canReign_5 (by decide) (fun c_2 => ?_) (fun c_2 => ?_)
  · have _ := c_2
    refine lv_iconst (v := iI 0) hx hb dX10_canReign_31 (by decide) ?_
    exact zo_zret hx hb hr hlocks (by first | (rw [decide_eq_true (by omega)]; rfl) | (rw [decide_eq_false (by omega)]; rfl)) dX10_canReign_32
  · have _ := c_2
    refine lv_aload_n hx hb dX10_canReign_8 rfl (lv_at hl 0 rfl) ?_
    refine lv_iconst (v := iI 0) hx hb dX10_canReign_9 (by decide) ?_
    refine zf_ald hx hb hK hP 0 (f := flR R) rfl (0) (rfl) (by omega) (by decide) (z := R 1 0) (fl_1) dX10_canReign_10 ?_
    have hb_3 := hB 1 0
    refine zi_if_eq (tgt := 27) hx hb ⟨by omega, by omega⟩ dX10_canReign_11 (by decide) (fun c_4 => ?_) (fun c_4 => ?_)
    · have _ := c_4
      refine lv_iconst (v := iI 1) hx hb dX10_canReign_27 (by decide) ?_
      refine lv_goto (tgt := 32) hx hb dX10_canReign_28 (by decide) ?_
      exact zo_zret hx hb hr hlocks (by first | (rw [decide_eq_true (by omega)]; rfl) | (rw [decide_eq_false (by omega)]; rfl)) dX10_canReign_32
    · have _ := c_4
      refine lv_iload_n hx hb dX10_canReign_14 rfl (lv_at hl 1 rfl) ?_
      refine lv_aload_n hx hb dX10_canReign_15 rfl (lv_at hl 0 rfl) ?_
      refine lv_iconst (v := iI 5) hx hb dX10_canReign_16 (by decide) ?_
      refine lv_aload_n hx hb dX10_canReign_17 rfl (lv_at hl 0 rfl) ?_
      refine lv_iconst (v := iI 0) hx hb dX10_canReign_18 (by decide) ?_
      refine zf_ald hx hb hK hP 0 (f := flR R) rfl (0) (rfl) (by omega) (by decide) (z := R 1 0) (fl_1) dX10_canReign_19 ?_
      have hb_5 := hB 1 0
      refine zi_add hx hb dX10_canReign_20 ?_
      refine lv_iconst (v := iI 1) hx hb dX10_canReign_21 (by decide) ?_
      refine zi_sub hx hb dX10_canReign_22 ?_
      refine zf_ald hx hb hK hP 0 (f := flR R) rfl (5 + ((R 1 0).toNat - 1)) (by omega) (by omega) (by decide) (z := R 2 ((R 1 0).toNat - 1)) (fl_2 (i := (R 1 0).toNat - 1) (by omega) (by omega)) dX10_canReign_23 ?_
      have hb_6 := hB 2 ((R 1 0).toNat - 1)
      refine zi_icmp_le (tgt := 31) hx hb ⟨by omega, by omega⟩ ⟨by omega, by omega⟩ dX10_canReign_24 (by decide) (fun c_7 => ?_) (fun c_7 => ?_)
      · have _ := c_7
        refine lv_iconst (v := iI 0) hx hb dX10_canReign_31 (by decide) ?_
        exact zo_zret hx hb hr hlocks (by first | (rw [decide_eq_true (by omega)]; rfl) | (rw [decide_eq_false (by omega)]; rfl)) dX10_canReign_32
      · have _ := c_7
        refine lv_iconst (v := iI 1) hx hb dX10_canReign_27 (by decide) ?_
        refine lv_goto (tgt := 32) hx hb dX10_canReign_28 (by decide) ?_
        exact zo_zret hx hb hr hlocks (by first | (rw [decide_eq_true (by omega)]; rfl) | (rw [decide_eq_false (by omega)]; rfl)) dX10_canReign_32

theorem cd_X10_areYears : cd yX10_areYears 2 := by decide +kernel
set_option maxHeartbeats 1000000 in
set_option maxRecDepth 100000 in
theorem c_X10_areYears (l : Launch) (g : va_G) (τ : Nat → ClassId) (y : Int) (ry : -2147483648 ≤ y ∧ y < 2147483648) (z : Int) (rz : -2147483648 ≤ z ∧ z < 2147483648)  : Met l yX10_areYears wsX10_areYears { frames := 2, cells := 0, slots := 0, locals := 45 } (va_Pc [Value.int (iI y), Value.int (iI z)] (roW g τ ([]))) (roQ (some (Value.int (iI (zB (decide ((1000 ≤ y ∧ y ≤ 1999) ∧ (y ≤ z ∧ z ≤ 1999)))))))) 0 0 nof := by
  refine roMet (cc := cX10_areYears) (maxL := 2) (ret := (some .boolean)) (lv := [(0, Value.int (iI y)), (1, Value.int (iI z))]) (by decide) rfl (Nat.le_of_ble_eq_true rfl) rfl ?_
  intro p e s m below meth c hx hb hr hml hts hown hlocks hP hK ls hl
  refine lv_iload_n hx hb dX10_areYears_0 rfl (lv_at hl 0 rfl) ?_
  refine ro_S (As := [Value.int (iI y)]) (rest := []) (v := some (Value.int (iI (zB (decide (1000 ≤ y ∧ y ≤ 1999)))))) ⟨hx, hb, hml, hown, hts⟩ (c_X10_isYear l g τ y ⟨by omega, by omega⟩) gX10_areYears_X10_isYear cd_X10_isYear rfl ⟨rfl, rfl⟩ ⟨Nat.le_of_ble_eq_true rfl, Nat.le_of_ble_eq_true rfl⟩ hK (fun _ _ h => by cases h) rfl hl rfl (Nat.le_of_ble_eq_true rfl) dX10_areYears_1 ⟨Nat.le_of_ble_eq_true rfl, Nat.le_of_ble_eq_true rfl⟩ ?_
  refine tl_some ?_
  refine zb_if_eq (tgt := 24) hx hb dX10_areYears_4 (by decide) (fun c_1 => ?_) (fun c_1 => ?_)
  · have cd_c_1 := of_decide_eq_false c_1
    refine lv_iconst (v := iI 0) hx hb dX10_areYears_24 (by decide) ?_
    exact zo_zret hx hb hr hlocks (by first | (rw [decide_eq_true (by omega)]; rfl) | (rw [decide_eq_false (by omega)]; rfl)) dX10_areYears_25
  · have cd_c_1 := of_decide_eq_true c_1
    refine lv_iload_n hx hb dX10_areYears_7 rfl (lv_at hl 1 rfl) ?_
    refine lv_i2l (v := (iI z).toInt64) hx hb dX10_areYears_8 rfl ?_
    refine cv_l (y := iL z) (i2l_iL ⟨by omega, by omega⟩) ?_
    refine lv_iload_n hx hb dX10_areYears_9 rfl (lv_at hl 0 rfl) ?_
    refine lv_i2l (v := (iI y).toInt64) hx hb dX10_areYears_10 rfl ?_
    refine cv_l (y := iL y) (i2l_iL ⟨by omega, by omega⟩) ?_
    refine lv_ldc2 (v := 1999) hx hb hown (hts _ (List.mem_of_getElem? (i := 1) rfl)) dX10_areYears_11 ?_
    refine cv_l (y := iL 1999) (by decide) ?_
    refine ro_S (As := [Value.long (iL z), Value.long (iL y), Value.long (iL 1999)]) (rest := []) (v := some (Value.int (iI (zB (decide (y ≤ z ∧ z ≤ 1999)))))) ⟨hx, hb, hml, hown, hts⟩ (c_X10_in l g τ z y 1999 ⟨by omega, by omega⟩ ⟨by omega, by omega⟩ ⟨by omega, by omega⟩) gX10_areYears_X10_in cd_X10_in rfl ⟨rfl, rfl⟩ ⟨Nat.le_of_ble_eq_true rfl, Nat.le_of_ble_eq_true rfl⟩ hK (fun _ _ h => by cases h) rfl hl rfl (Nat.le_of_ble_eq_true rfl) dX10_areYears_14 ⟨Nat.le_of_ble_eq_true rfl, Nat.le_of_ble_eq_true rfl⟩ ?_
    refine tl_some ?_
    refine zb_if_eq (tgt := 24) hx hb dX10_areYears_17 (by decide) (fun c_2 => ?_) (fun c_2 => ?_)
    · have cd_c_2 := of_decide_eq_false c_2
      refine lv_iconst (v := iI 0) hx hb dX10_areYears_24 (by decide) ?_
      exact zo_zret hx hb hr hlocks (by first | (rw [decide_eq_true (by omega)]; rfl) | (rw [decide_eq_false (by omega)]; rfl)) dX10_areYears_25
    · have cd_c_2 := of_decide_eq_true c_2
      refine lv_iconst (v := iI 1) hx hb dX10_areYears_20 (by decide) ?_
      refine lv_goto (tgt := 25) hx hb dX10_areYears_21 (by decide) ?_
      exact zo_zret hx hb hr hlocks (by first | (rw [decide_eq_true (by omega)]; rfl) | (rw [decide_eq_false (by omega)]; rfl)) dX10_areYears_25

theorem cd_X10_isKind : cd yX10_isKind 3 := by decide +kernel
set_option maxHeartbeats 1000000 in
set_option maxRecDepth 100000 in
theorem c_X10_isKind (l : Launch) (g : va_G) (τ : Nat → ClassId) (y : Int) (ry : -2147483648 ≤ y ∧ y < 2147483648) (q : Int) (rq : -2147483648 ≤ q ∧ q < 2147483648) (z : Int) (rz : -2147483648 ≤ z ∧ z < 2147483648)  : Met l yX10_isKind wsX10_isKind { frames := 1, cells := 0, slots := 0, locals := 25 } (va_Pc [Value.int (iI y), Value.int (iI q), Value.int (iI z)] (roW g τ ([]))) (roQ (some (Value.int (iI (zB (decide ((0 ≤ y ∧ y ≤ 1) ∧ (-1 ≤ q ∧ q ≤ 7) ∧ (0 ≤ z ∧ z ≤ 99)))))))) 0 0 nof := by
  refine roMet (cc := cX10_isKind) (maxL := 3) (ret := (some .boolean)) (lv := [(0, Value.int (iI y)), (1, Value.int (iI q)), (2, Value.int (iI z))]) (by decide) rfl (Nat.le_of_ble_eq_true rfl) rfl ?_
  intro p e s m below meth c hx hb hr hml hts hown hlocks hP hK ls hl
  refine lv_iload_n hx hb dX10_isKind_0 rfl (lv_at hl 0 rfl) ?_
  refine lv_i2l (v := (iI y).toInt64) hx hb dX10_isKind_1 rfl ?_
  refine cv_l (y := iL y) (i2l_iL ⟨by omega, by omega⟩) ?_
  refine lv_lconst (v := 0) hx hb dX10_isKind_2 (by decide) ?_
  refine cv_l (y := iL 0) (by decide) ?_
  refine lv_lconst (v := 1) hx hb dX10_isKind_3 (by decide) ?_
  refine cv_l (y := iL 1) (by decide) ?_
  refine ro_S (As := [Value.long (iL y), Value.long (iL 0), Value.long (iL 1)]) (rest := []) (v := some (Value.int (iI (zB (decide (0 ≤ y ∧ y ≤ 1)))))) ⟨hx, hb, hml, hown, hts⟩ (c_X10_in l g τ y 0 1 ⟨by omega, by omega⟩ ⟨by omega, by omega⟩ ⟨by omega, by omega⟩) gX10_isKind_X10_in cd_X10_in rfl ⟨rfl, rfl⟩ ⟨Nat.le_of_ble_eq_true rfl, Nat.le_of_ble_eq_true rfl⟩ hK (fun _ _ h => by cases h) rfl hl rfl (Nat.le_of_ble_eq_true rfl) dX10_isKind_4 ⟨Nat.le_of_ble_eq_true rfl, Nat.le_of_ble_eq_true rfl⟩ ?_
  refine tl_some ?_
  refine zb_if_eq (tgt := 40) hx hb dX10_isKind_7 (by decide) (fun c_1 => ?_) (fun c_1 => ?_)
  · have cd_c_1 := of_decide_eq_false c_1
    refine lv_iconst (v := iI 0) hx hb dX10_isKind_40 (by decide) ?_
    exact zo_zret hx hb hr hlocks (by first | (rw [decide_eq_true (by omega)]; rfl) | (rw [decide_eq_false (by omega)]; rfl)) dX10_isKind_41
  · have cd_c_1 := of_decide_eq_true c_1
    refine lv_iload_n hx hb dX10_isKind_10 rfl (lv_at hl 1 rfl) ?_
    refine lv_i2l (v := (iI q).toInt64) hx hb dX10_isKind_11 rfl ?_
    refine cv_l (y := iL q) (i2l_iL ⟨by omega, by omega⟩) ?_
    refine lv_ldc2 (v := (-1)) hx hb hown (hts _ (List.mem_of_getElem? (i := 1) rfl)) dX10_isKind_12 ?_
    refine cv_l (y := iL (-1)) (by decide) ?_
    refine lv_ldc2 (v := 7) hx hb hown (hts _ (List.mem_of_getElem? (i := 2) rfl)) dX10_isKind_15 ?_
    refine cv_l (y := iL 7) (by decide) ?_
    refine ro_S (As := [Value.long (iL q), Value.long (iL (-1)), Value.long (iL 7)]) (rest := []) (v := some (Value.int (iI (zB (decide ((-1) ≤ q ∧ q ≤ 7)))))) ⟨hx, hb, hml, hown, hts⟩ (c_X10_in l g τ q (-1) 7 ⟨by omega, by omega⟩ ⟨by omega, by omega⟩ ⟨by omega, by omega⟩) gX10_isKind_X10_in cd_X10_in rfl ⟨rfl, rfl⟩ ⟨Nat.le_of_ble_eq_true rfl, Nat.le_of_ble_eq_true rfl⟩ hK (fun _ _ h => by cases h) rfl hl rfl (Nat.le_of_ble_eq_true rfl) dX10_isKind_18 ⟨Nat.le_of_ble_eq_true rfl, Nat.le_of_ble_eq_true rfl⟩ ?_
    refine tl_some ?_
    refine zb_if_eq (tgt := 40) hx hb dX10_isKind_21 (by decide) (fun c_2 => ?_) (fun c_2 => ?_)
    · have cd_c_2 := of_decide_eq_false c_2
      refine lv_iconst (v := iI 0) hx hb dX10_isKind_40 (by decide) ?_
      exact zo_zret hx hb hr hlocks (by first | (rw [decide_eq_true (by omega)]; rfl) | (rw [decide_eq_false (by omega)]; rfl)) dX10_isKind_41
    · have cd_c_2 := of_decide_eq_true c_2
      refine lv_iload_n hx hb dX10_isKind_24 rfl (lv_at hl 2 rfl) ?_
      refine lv_i2l (v := (iI z).toInt64) hx hb dX10_isKind_25 rfl ?_
      refine cv_l (y := iL z) (i2l_iL ⟨by omega, by omega⟩) ?_
      refine lv_lconst (v := 0) hx hb dX10_isKind_26 (by decide) ?_
      refine cv_l (y := iL 0) (by decide) ?_
      refine lv_ldc2 (v := 99) hx hb hown (hts _ (List.mem_of_getElem? (i := 3) rfl)) dX10_isKind_27 ?_
      refine cv_l (y := iL 99) (by decide) ?_
      refine ro_S (As := [Value.long (iL z), Value.long (iL 0), Value.long (iL 99)]) (rest := []) (v := some (Value.int (iI (zB (decide (0 ≤ z ∧ z ≤ 99)))))) ⟨hx, hb, hml, hown, hts⟩ (c_X10_in l g τ z 0 99 ⟨by omega, by omega⟩ ⟨by omega, by omega⟩ ⟨by omega, by omega⟩) gX10_isKind_X10_in cd_X10_in rfl ⟨rfl, rfl⟩ ⟨Nat.le_of_ble_eq_true rfl, Nat.le_of_ble_eq_true rfl⟩ hK (fun _ _ h => by cases h) rfl hl rfl (Nat.le_of_ble_eq_true rfl) dX10_isKind_30 ⟨Nat.le_of_ble_eq_true rfl, Nat.le_of_ble_eq_true rfl⟩ ?_
      refine tl_some ?_
      refine zb_if_eq (tgt := 40) hx hb dX10_isKind_33 (by decide) (fun c_3 => ?_) (fun c_3 => ?_)
      · have cd_c_3 := of_decide_eq_false c_3
        refine lv_iconst (v := iI 0) hx hb dX10_isKind_40 (by decide) ?_
        exact zo_zret hx hb hr hlocks (by first | (rw [decide_eq_true (by omega)]; rfl) | (rw [decide_eq_false (by omega)]; rfl)) dX10_isKind_41
      · have cd_c_3 := of_decide_eq_true c_3
        refine lv_iconst (v := iI 1) hx hb dX10_isKind_36 (by decide) ?_
        refine lv_goto (tgt := 41) hx hb dX10_isKind_37 (by decide) ?_
        exact zo_zret hx hb hr hlocks (by first | (rw [decide_eq_true (by omega)]; rfl) | (rw [decide_eq_false (by omega)]; rfl)) dX10_isKind_41

theorem cd_X10_areCracks : cd yX10_areCracks 3 := by decide +kernel
set_option maxHeartbeats 1000000 in
set_option maxRecDepth 100000 in
theorem c_X10_areCracks (l : Launch) (g : va_G) (τ : Nat → ClassId) (fa : Nat) (R : Nat → Nat → Int) (hI : SI R) (d1 : Nat) (hd1 : (d1 : Int) < R 4 0) (z : Int) (hz : -2147483648 ≤ z ∧ z < 2147483648)  : Met l yX10_areCracks wsX10_areCracks { frames := 1, cells := 0, slots := 0, locals := 25 } (va_Pc [Value.ref fa, Value.int (iI (d1 : Int)), Value.int (iI z)] (roW g τ (flW fa R τ))) (roQ (some (Value.int (iI (zB (decide (0 ≤ z ∧ z ≤ (2 : Int) ^ (R 8 d1).toNat - 1))))))) 0 0 nof := by
  have hB := hI.hB
  have hr0 := hI.r
  have hd0 := hI.d
  have hs0 := hI.s
  have hdl := hI.ds d1 hd1
  have hpw := pow_r (m := (R 8 d1).toNat) (by omega)
  refine roMet (cc := cX10_areCracks) (maxL := 3) (ret := (some .boolean)) (lv := [(0, Value.ref fa), (1, Value.int (iI (d1 : Int))), (2, Value.int (iI z))]) (by decide) rfl (Nat.le_of_ble_eq_true rfl) rfl ?_
  intro p e s m below meth c hx hb hr hml hts hown hlocks hP hK ls hl
  refine lv_iload_n hx hb dX10_areCracks_0 rfl (lv_at hl 2 rfl) ?_
  refine lv_i2l (v := (iI z).toInt64) hx hb dX10_areCracks_1 rfl ?_
  refine cv_l (y := iL z) (i2l_iL ⟨by omega, by omega⟩) ?_
  refine lv_lconst (v := 0) hx hb dX10_areCracks_2 (by decide) ?_
  refine cv_l (y := iL 0) (by decide) ?_
  refine lv_iconst (v := iI 1) hx hb dX10_areCracks_3 (by decide) ?_
  refine lv_aload_n hx hb dX10_areCracks_4 rfl (lv_at hl 0 rfl) ?_
  refine lv_bipush (v := iI 55) hx hb dX10_areCracks_5 (by decide) ?_
  refine lv_iload_n hx hb dX10_areCracks_7 rfl (lv_at hl 1 rfl) ?_
  refine zi_add hx hb dX10_areCracks_8 ?_
  refine zf_ald hx hb hK hP 0 (f := flR R) rfl (55 + d1) (by omega) (by omega) (by decide) (z := R 8 d1) (fl_8 (i := d1) (by omega) (by omega)) dX10_areCracks_9 ?_
  have hb_1 := hB 8 d1
  refine zi_shl1 ((R 8 d1).toNat) (by omega) (by omega) hx hb dX10_areCracks_10 ?_
  refine lv_iconst (v := iI 1) hx hb dX10_areCracks_11 (by decide) ?_
  refine zi_sub hx hb dX10_areCracks_12 ?_
  refine lv_i2l (v := (iI (((2 : Int) ^ ((R 8 d1).toNat)) - 1)).toInt64) hx hb dX10_areCracks_13 rfl ?_
  refine cv_l (y := iL (((2 : Int) ^ ((R 8 d1).toNat)) - 1)) (i2l_iL ⟨by omega, by omega⟩) ?_
  refine ro_S (As := [Value.long (iL z), Value.long (iL 0), Value.long (iL (((2 : Int) ^ ((R 8 d1).toNat)) - 1))]) (rest := []) (v := some (Value.int (iI (zB (decide (0 ≤ z ∧ z ≤ (((2 : Int) ^ ((R 8 d1).toNat)) - 1))))))) ⟨hx, hb, hml, hown, hts⟩ (c_X10_in l g τ z 0 (((2 : Int) ^ ((R 8 d1).toNat)) - 1) ⟨by omega, by omega⟩ ⟨by omega, by omega⟩ ⟨by omega, by omega⟩) gX10_areCracks_X10_in cd_X10_in rfl ⟨rfl, rfl⟩ ⟨Nat.le_of_ble_eq_true rfl, Nat.le_of_ble_eq_true rfl⟩ hK (fun _ _ h => by cases h) rfl hl rfl (Nat.le_of_ble_eq_true rfl) dX10_areCracks_14 ⟨Nat.le_of_ble_eq_true rfl, Nat.le_of_ble_eq_true rfl⟩ ?_
  refine tl_some ?_
  exact zo_zret hx hb hr hlocks (rfl) dX10_areCracks_17

theorem cd_X10_canCrack : cd yX10_canCrack 3 := by decide +kernel
set_option maxHeartbeats 1000000 in
set_option maxRecDepth 100000 in
theorem c_X10_canCrack (l : Launch) (g : va_G) (τ : Nat → ClassId) (fa : Nat) (R : Nat → Nat → Int) (hI : SI R) (d1 : Nat) (hd1 : (d1 : Int) < R 4 0) (z : Int) (hz : -2147483648 ≤ z ∧ z < 2147483648)  : Met l yX10_canCrack wsX10_canCrack { frames := 0, cells := 0, slots := 0, locals := 0 } (va_Pc [Value.ref fa, Value.int (iI (d1 : Int)), Value.int (iI z)] (roW g τ (flW fa R τ))) (roQ (some (Value.int (iI (zB (rCk R d1 z (R 8 d1).toNat)))))) 0 0 nof := by
  have hB := hI.hB
  have hr0 := hI.r
  have hd0 := hI.d
  have hs0 := hI.s
  have hdl := hI.ds d1 hd1
  refine roMet (cc := cX10_canCrack) (maxL := 5) (ret := (some .boolean)) (lv := [(0, Value.ref fa), (1, Value.int (iI (d1 : Int))), (2, Value.int (iI z))]) (by decide) rfl (Nat.le_of_ble_eq_true rfl) rfl ?_
  intro p e s m below meth c hx hb hr hml hts hown hlocks hP hK ls hl
  refine jn (F0 m 15 ls (Value.int (iI (zB (decide (R 8 d1 < 4)))) :: [])) ?_ (fun K => ?_)
  · skip
    refine lv_istore_n (lv' := [(3, Value.int (iI (zB (decide (R 8 d1 < 4))))), (0, Value.ref fa), (1, Value.int (iI (d1 : Int))), (2, Value.int (iI z))]) hx hb dX10_canCrack_15 rfl hl (by decide) rfl (fun ls hl => ?_)
    refine lv_iconst (v := iI 0) hx hb dX10_canCrack_16 (by decide) ?_
    refine lv_istore (lv' := [(4, Value.int (iI 0)), (3, Value.int (iI (zB (decide (R 8 d1 < 4))))), (0, Value.ref fa), (1, Value.int (iI (d1 : Int))), (2, Value.int (iI z))]) hx hb dX10_canCrack_17 hl (by decide) rfl (fun ls hl => ?_)
    have h0_1 : zB (rCk R d1 z 0) = zB (decide (R 8 d1 < 4)) := rfl
    refine lp_up (fun i => [(4, Value.int (iI (i : Int))), (3, Value.int (iI (zB (rCk R d1 z i)))), (0, Value.ref fa), (1, Value.int (iI (d1 : Int))), (2, Value.int (iI z))]) (fun i => True) ((R 8 d1).toNat) (0) (by omega) (by first | trivial | (intro j hj; omega)) (lv_eq (lv_sub hl [0, 1, 2, 3, 4] rfl) (by show [(4, Value.int (iI 0)), (3, Value.int (iI (zB (rCk R d1 z 0)))), (0, Value.ref fa), (1, Value.int (iI (d1 : Int))), (2, Value.int (iI z))] = [(4, Value.int (iI 0)), (3, Value.int (iI (zB (decide (R 8 d1 < 4))))), (0, Value.ref fa), (1, Value.int (iI (d1 : Int))), (2, Value.int (iI z))]; rw [h0_1])) (fun i h0_i hi_i hI_i ih_19 ls hl => ?_)
    refine lv_iload hx hb dX10_canCrack_19 (lv_at hl 0 rfl) ?_
    refine lv_aload_n hx hb dX10_canCrack_21 rfl (lv_at hl 2 rfl) ?_
    refine lv_bipush (v := iI 55) hx hb dX10_canCrack_22 (by decide) ?_
    refine lv_iload_n hx hb dX10_canCrack_24 rfl (lv_at hl 3 rfl) ?_
    refine zi_add hx hb dX10_canCrack_25 ?_
    refine zf_ald hx hb hK hP 0 (f := flR R) rfl (55 + d1) (by omega) (by omega) (by decide) (z := R 8 d1) (fl_8 (i := d1) (by omega) (by omega)) dX10_canCrack_26 ?_
    have hb_2 := hB 8 d1
    refine zi_icmp_ge (tgt := 61) hx hb ⟨by omega, by omega⟩ ⟨by omega, by omega⟩ dX10_canCrack_27 (by decide) (fun c_3 => ?_) (fun c_3 => ?_)
    · have _ := c_3
      have h0_i : i = (R 8 d1).toNat := by omega
      refine lv_iload_n hx hb dX10_canCrack_61 rfl (lv_at hl 1 rfl) ?_
      exact zo_zret hx hb hr hlocks (by rw [h0_i]) dX10_canCrack_62
    · have _ := c_3
      have hl_i : i < (R 8 d1).toNat := by omega
      refine lv_iload_n hx hb dX10_canCrack_30 rfl (lv_at hl 1 rfl) ?_
      refine zb_if_eq (tgt := 53) hx hb dX10_canCrack_31 (by decide) (fun c_4 => ?_) (fun c_4 => ?_)
      · have _ := c_4
        refine lv_iconst (v := iI 0) hx hb dX10_canCrack_53 (by decide) ?_
        refine lv_istore_n (lv' := [(3, Value.int (iI 0)), (4, Value.int (iI (i : Int))), (0, Value.ref fa), (1, Value.int (iI (d1 : Int))), (2, Value.int (iI z))]) hx hb dX10_canCrack_54 rfl hl (by decide) rfl (fun ls hl => ?_)
        refine zi_inc (v := ((i + 1 : Nat) : Int)) (lv' := [(4, Value.int (iI ((i + 1 : Nat) : Int))), (3, Value.int (iI 0)), (0, Value.ref fa), (1, Value.int (iI (d1 : Int))), (2, Value.int (iI z))]) hx hb dX10_canCrack_55 hl (k := 1) rfl (by omega) (by decide) rfl (fun ls hl => ?_)
        refine lv_goto (tgt := 19) hx hb dX10_canCrack_58 (by decide) ?_
        have hb_5 : (((i + 1) : Nat) : Int) = ((i + 1 : Nat) : Int) := by first | rfl | omega | (simp [c_3, c_4]; done)
        have hb_6 : zB (rCk R d1 z (i + 1)) = 0 := by rw [rCk]; first | (rw [show rCk R d1 z i = false from by assumption]; rfl) | (rw [show rCk R d1 z i = true from by assumption]; first | (rw [decide_eq_true (by omega)]; rfl) | (rw [decide_eq_false (by omega)]; rfl))
        exact ih_19 hl_i (trivial) _ (lv_eq (lv_sub hl [0, 1, 2, 3, 4] rfl) (by show [(4, Value.int (iI (((i + 1) : Nat) : Int))), (3, Value.int (iI (zB (rCk R d1 z (i + 1))))), (0, Value.ref fa), (1, Value.int (iI (d1 : Int))), (2, Value.int (iI z))] = [(4, Value.int (iI ((i + 1 : Nat) : Int))), (3, Value.int (iI 0)), (0, Value.ref fa), (1, Value.int (iI (d1 : Int))), (2, Value.int (iI z))]; rw [hb_5, hb_6]))
      · have _ := c_4
        refine lv_aload_n hx hb dX10_canCrack_34 rfl (lv_at hl 2 rfl) ?_
        refine lv_bipush (v := iI 65) hx hb dX10_canCrack_35 (by decide) ?_
        refine lv_iconst (v := iI 4) hx hb dX10_canCrack_37 (by decide) ?_
        refine lv_iload_n hx hb dX10_canCrack_38 rfl (lv_at hl 3 rfl) ?_
        refine zi_mul hx hb dX10_canCrack_39 ?_
        refine zi_add hx hb dX10_canCrack_40 ?_
        refine lv_iload hx hb dX10_canCrack_41 (lv_at hl 0 rfl) ?_
        refine zi_add hx hb dX10_canCrack_43 ?_
        refine zf_ald hx hb hK hP 0 (f := flR R) rfl ((65 + (4 * d1)) + i) (by omega) (by omega) (by decide) (z := R 9 (d1 * 4 + i)) (fl_9 (i := d1 * 4 + i) (by omega) (by omega)) dX10_canCrack_44 ?_
        have hb_7 := hB 9 (d1 * 4 + i)
        refine lv_iload_n hx hb dX10_canCrack_45 rfl (lv_at hl 4 rfl) ?_
        refine zi_icmp_eq (tgt := 53) hx hb ⟨by omega, by omega⟩ ⟨by omega, by omega⟩ dX10_canCrack_46 (by decide) (fun c_8 => ?_) (fun c_8 => ?_)
        · have _ := c_8
          refine lv_iconst (v := iI 0) hx hb dX10_canCrack_53 (by decide) ?_
          refine lv_istore_n (lv' := [(3, Value.int (iI 0)), (4, Value.int (iI (i : Int))), (0, Value.ref fa), (1, Value.int (iI (d1 : Int))), (2, Value.int (iI z))]) hx hb dX10_canCrack_54 rfl hl (by decide) rfl (fun ls hl => ?_)
          refine zi_inc (v := ((i + 1 : Nat) : Int)) (lv' := [(4, Value.int (iI ((i + 1 : Nat) : Int))), (3, Value.int (iI 0)), (0, Value.ref fa), (1, Value.int (iI (d1 : Int))), (2, Value.int (iI z))]) hx hb dX10_canCrack_55 hl (k := 1) rfl (by omega) (by decide) rfl (fun ls hl => ?_)
          refine lv_goto (tgt := 19) hx hb dX10_canCrack_58 (by decide) ?_
          have hb_9 : (((i + 1) : Nat) : Int) = ((i + 1 : Nat) : Int) := by first | rfl | omega | (simp [c_3, c_4, c_8]; done)
          have hb_10 : zB (rCk R d1 z (i + 1)) = 0 := by rw [rCk]; first | (rw [show rCk R d1 z i = false from by assumption]; rfl) | (rw [show rCk R d1 z i = true from by assumption]; first | (rw [decide_eq_true (by omega)]; rfl) | (rw [decide_eq_false (by omega)]; rfl))
          exact ih_19 hl_i (trivial) _ (lv_eq (lv_sub hl [0, 1, 2, 3, 4] rfl) (by show [(4, Value.int (iI (((i + 1) : Nat) : Int))), (3, Value.int (iI (zB (rCk R d1 z (i + 1))))), (0, Value.ref fa), (1, Value.int (iI (d1 : Int))), (2, Value.int (iI z))] = [(4, Value.int (iI ((i + 1 : Nat) : Int))), (3, Value.int (iI 0)), (0, Value.ref fa), (1, Value.int (iI (d1 : Int))), (2, Value.int (iI z))]; rw [hb_9, hb_10]))
        · have _ := c_8
          refine lv_iconst (v := iI 1) hx hb dX10_canCrack_49 (by decide) ?_
          refine lv_goto (tgt := 54) hx hb dX10_canCrack_50 (by decide) ?_
          refine lv_istore_n (lv' := [(3, Value.int (iI 1)), (4, Value.int (iI (i : Int))), (0, Value.ref fa), (1, Value.int (iI (d1 : Int))), (2, Value.int (iI z))]) hx hb dX10_canCrack_54 rfl hl (by decide) rfl (fun ls hl => ?_)
          refine zi_inc (v := ((i + 1 : Nat) : Int)) (lv' := [(4, Value.int (iI ((i + 1 : Nat) : Int))), (3, Value.int (iI 1)), (0, Value.ref fa), (1, Value.int (iI (d1 : Int))), (2, Value.int (iI z))]) hx hb dX10_canCrack_55 hl (k := 1) rfl (by omega) (by decide) rfl (fun ls hl => ?_)
          refine lv_goto (tgt := 19) hx hb dX10_canCrack_58 (by decide) ?_
          have hb_11 : (((i + 1) : Nat) : Int) = ((i + 1 : Nat) : Int) := by first | rfl | omega | (simp [c_3, c_4, c_8]; done)
          have hb_12 : zB (rCk R d1 z (i + 1)) = 1 := by rw [rCk]; first | (rw [show rCk R d1 z i = false from by assumption]; rfl) | (rw [show rCk R d1 z i = true from by assumption]; first | (rw [decide_eq_true (by omega)]; rfl) | (rw [decide_eq_false (by omega)]; rfl))
          exact ih_19 hl_i (trivial) _ (lv_eq (lv_sub hl [0, 1, 2, 3, 4] rfl) (by show [(4, Value.int (iI (((i + 1) : Nat) : Int))), (3, Value.int (iI (zB (rCk R d1 z (i + 1))))), (0, Value.ref fa), (1, Value.int (iI (d1 : Int))), (2, Value.int (iI z))] = [(4, Value.int (iI ((i + 1 : Nat) : Int))), (3, Value.int (iI 1)), (0, Value.ref fa), (1, Value.int (iI (d1 : Int))), (2, Value.int (iI z))]; rw [hb_11, hb_12]))
  · skip
    refine lv_aload_n hx hb dX10_canCrack_0 rfl (lv_at hl 0 rfl) ?_
    refine lv_bipush (v := iI 55) hx hb dX10_canCrack_1 (by decide) ?_
    refine lv_iload_n hx hb dX10_canCrack_3 rfl (lv_at hl 1 rfl) ?_
    refine zi_add hx hb dX10_canCrack_4 ?_
    refine zf_ald hx hb hK hP 0 (f := flR R) rfl (55 + d1) (by omega) (by omega) (by decide) (z := R 8 d1) (fl_8 (i := d1) (by omega) (by omega)) dX10_canCrack_5 ?_
    have hb_13 := hB 8 d1
    refine lv_iconst (v := iI 4) hx hb dX10_canCrack_6 (by decide) ?_
    refine zi_icmp_ge (tgt := 14) hx hb ⟨by omega, by omega⟩ ⟨by decide, by decide⟩ dX10_canCrack_7 (by decide) (fun c_14 => ?_) (fun c_14 => ?_)
    · have _ := c_14
      refine lv_iconst (v := iI 0) hx hb dX10_canCrack_14 (by decide) ?_
      exact cv_i (congrArg iI (Eq.symm (show (zB (decide (R 8 d1 < 4))) = 0 from (by first | (rw [decide_eq_true (by omega)]; rfl) | (rw [decide_eq_false (by omega)]; rfl) : _)))) K
    · have _ := c_14
      refine lv_iconst (v := iI 1) hx hb dX10_canCrack_10 (by decide) ?_
      refine lv_goto (tgt := 15) hx hb dX10_canCrack_11 (by decide) ?_
      exact cv_i (congrArg iI (Eq.symm (show (zB (decide (R 8 d1 < 4))) = 1 from (by first | (rw [decide_eq_true (by omega)]; rfl) | (rw [decide_eq_false (by omega)]; rfl) : _)))) K
