theorem kRight_r (R : Nat → Nat → Int) (c : Nat) : ∀ n, 0 ≤ kRight R c n ∧ kRight R c n < 2 ^ (n + 1)
  | 0 => ⟨Int.le_refl 0, by show (0 : Int) < 2 ^ (0 + 1); decide⟩
  | n + 1 => by
    have h := kRight_r R c n
    have e : (2 : Int) ^ (n + 1) = ((2 ^ (n + 1) : Nat) : Int) := by push_cast; rfl
    have e2 : (2 : Int) ^ (n + 1 + 1) = ((2 ^ (n + 1 + 1) : Nat) : Int) := by push_cast; rfl
    unfold kRight
    split
    · refine ⟨Int.natCast_nonneg _, ?_⟩
      unfold zor
      rw [e2]
      refine Int.ofNat_lt.mpr (Nat.or_lt_two_pow ?_ ?_)
      · have h2 := h.2
        rw [e] at h2
        have : (2 : Nat) ^ (n + 1) < 2 ^ (n + 1 + 1) := Nat.pow_lt_pow_right (by decide) (by omega)
        omega
      · rw [e]
        exact Nat.pow_lt_pow_right (by decide) (by omega)
    · refine ⟨h.1, Int.lt_trans h.2 ?_⟩
      rw [e, e2]
      exact Int.ofNat_lt.mpr (Nat.pow_lt_pow_right (by decide) (by omega))
theorem dFirst_r (R : Nat → Nat → Int) (hB : ∀ k j, -1 ≤ R k j ∧ R k j < 65536) (d : Nat) (sh : Int) : ∀ m, -1 ≤ dFirst R d sh m ∧ dFirst R d sh m < 65536
  | 0 => hB 6 d
  | m + 1 => by
    have h := dFirst_r R hB d sh m
    have h2 := hB 9 (d * 4 + m)
    unfold dFirst
    split <;> omega
theorem dLast_r (R : Nat → Nat → Int) (hB : ∀ k j, -1 ≤ R k j ∧ R k j < 65536) (d : Nat) (sh : Int) : ∀ m, -1 ≤ dLast R d sh m ∧ dLast R d sh m < 65536
  | 0 => hB 7 d
  | m + 1 => by
    have h := dLast_r R hB d sh m
    have h2 := hB 9 (d * 4 + m)
    unfold dLast
    split <;> omega

theorem cd_X3_isBehindAll : cd yX3_isBehindAll 1 := by decide +kernel
theorem in_X3_isBehindAll_X3 : ∀ w ∈ wsX30, w ∈ wsX3_isBehindAll := by decide +kernel
set_option maxHeartbeats 4000000 in
set_option maxRecDepth 100000 in
theorem c_X3_isBehindAll (l : Launch) (g : va_G) (τ : Nat → ClassId) (ad : Nat → Nat) (R : Nat → Nat → Int) (hB : ∀ k j, -1 ≤ R k j ∧ R k j < 65536) (n : Nat) (hn : n ≤ 10) (hN : R 1 0 = (n : Int)) (y : Int) (ry : -2147483648 ≤ y ∧ y < 2147483648)  : Met l yX3_isBehindAll wsX3_isBehindAll { frames := 0, cells := 0, slots := 0, locals := 0 } (va_Pc [Value.ref (ad 1), Value.int (iI y)] (roW g τ (rgW ad R τ))) (roQ (some (Value.int (iI (zB (kBehind R n y)))))) 0 0 nof := by
  refine roMet (cc := cX3_isBehindAll) (maxL := 2) (ret := (some .boolean)) (lv := [(0, Value.ref (ad 1)), (1, Value.int (iI y))]) (by decide) rfl (Nat.le_of_ble_eq_true rfl) rfl ?_
  intro p e s m below meth c hx hb hr hml hts hown hlocks hP hK ls hl
  refine lv_aload_n hx hb dX3_isBehindAll_0 rfl (lv_at hl 0 rfl) ?_
  refine va_get (D := g) (ci := 3) (v := Value.int (iI (R 1 0))) (C := RX3) (T := TX3) (N := 3) hx hb hts in_X3_isBehindAll_X3 hown hK.1 hP 0 (rfl) rfl 0 (by decide) (hts _ (List.mem_of_getElem? (i := 1) rfl) : (Cond.fieldLink RX3 18 "CordSeals$Reigns" "count" "I").before _ s = true) (fun _ h9 => h9) rfl dX3_isBehindAll_1 ?_
  have hb_1 := hB 1 0
  refine zi_if_eq (tgt := 22) hx hb ⟨by omega, by omega⟩ dX3_isBehindAll_4 (by decide) (fun c_2 => ?_) (fun c_2 => ?_)
  · have _ := c_2
    have h0 : n = 0 := by omega
    refine lv_iconst (v := iI 1) hx hb dX3_isBehindAll_22 (by decide) ?_
    refine lv_goto (tgt := 27) hx hb dX3_isBehindAll_23 (by decide) ?_
    exact zo_zret hx hb hr hlocks (by simp [kBehind, zB, c_2, h0]; try omega) dX3_isBehindAll_27
  · have _ := c_2
    have h0 : ¬ n = 0 := by omega
    refine lv_iload_n hx hb dX3_isBehindAll_7 rfl (lv_at hl 1 rfl) ?_
    refine lv_aload_n hx hb dX3_isBehindAll_8 rfl (lv_at hl 0 rfl) ?_
    refine va_get (D := g) (ci := 3) (v := Value.ref (ad 2)) (C := RX3) (T := TX3) (N := 3) hx hb hts in_X3_isBehindAll_X3 hown hK.1 hP 0 (rfl) rfl 1 (by decide) (hts _ (List.mem_of_getElem? (i := 2) rfl) : (Cond.fieldLink RX3 9 "CordSeals$Reigns" "begin" "[I").before _ s = true) (fun _ h9 => h9) rfl dX3_isBehindAll_9 ?_
    refine lv_aload_n hx hb dX3_isBehindAll_12 rfl (lv_at hl 0 rfl) ?_
    refine va_get (D := g) (ci := 3) (v := Value.int (iI (R 1 0))) (C := RX3) (T := TX3) (N := 3) hx hb hts in_X3_isBehindAll_X3 hown hK.1 hP 0 (rfl) rfl 0 (by decide) (hts _ (List.mem_of_getElem? (i := 1) rfl) : (Cond.fieldLink RX3 18 "CordSeals$Reigns" "count" "I").before _ s = true) (fun _ h9 => h9) rfl dX3_isBehindAll_13 ?_
    have hb_3 := hB 1 0
    refine lv_iconst (v := iI 1) hx hb dX3_isBehindAll_16 (by decide) ?_
    refine zi_sub hx hb dX3_isBehindAll_17 ?_
    refine zi_ald hx hb hK hP 1 (f := (R 2)) (rfl) (n - 1) (by omega) (by omega) (by decide) dX3_isBehindAll_18 ?_
    have hb_4 := hB 2 (n - 1)
    refine zi_icmp_le (tgt := 26) hx hb ⟨by omega, by omega⟩ ⟨by omega, by omega⟩ dX3_isBehindAll_19 (by decide) (fun c_5 => ?_) (fun c_5 => ?_)
    · have _ := c_5
      refine lv_iconst (v := iI 0) hx hb dX3_isBehindAll_26 (by decide) ?_
      exact zo_zret hx hb hr hlocks (by simp [kBehind, zB, c_2, h0, c_5]; try omega) dX3_isBehindAll_27
    · have _ := c_5
      refine lv_iconst (v := iI 1) hx hb dX3_isBehindAll_22 (by decide) ?_
      refine lv_goto (tgt := 27) hx hb dX3_isBehindAll_23 (by decide) ?_
      exact zo_zret hx hb hr hlocks (by simp [kBehind, zB, c_2, h0, c_5]; try omega) dX3_isBehindAll_27

theorem cd_X3_firstOfSpan : cd yX3_firstOfSpan 1 := by decide +kernel
theorem in_X3_firstOfSpan_X3 : ∀ w ∈ wsX30, w ∈ wsX3_firstOfSpan := by decide +kernel
set_option maxHeartbeats 4000000 in
set_option maxRecDepth 100000 in
theorem c_X3_firstOfSpan (l : Launch) (g : va_G) (τ : Nat → ClassId) (ad : Nat → Nat) (R : Nat → Nat → Int) (hB : ∀ k j, -1 ≤ R k j ∧ R k j < 65536) (n : Nat) (hn : n ≤ 10) (hN : R 1 0 = (n : Int)) (i : Nat) (hi : i ≤ n) : Met l yX3_firstOfSpan wsX3_firstOfSpan { frames := 0, cells := 0, slots := 0, locals := 0 } (va_Pc [Value.ref (ad 1), Value.int (iI (i : Int))] (roW g τ (rgW ad R τ))) (roQ (some (Value.int (iI (kFirst R i))))) 0 0 nof := by
  refine roMet (cc := cX3_firstOfSpan) (maxL := 2) (ret := (some .int)) (lv := [(0, Value.ref (ad 1)), (1, Value.int (iI (i : Int)))]) (by decide) rfl (Nat.le_of_ble_eq_true rfl) rfl ?_
  intro p e s m below meth c hx hb hr hml hts hown hlocks hP hK ls hl
  refine lv_iload_n hx hb dX3_firstOfSpan_0 rfl (lv_at hl 1 rfl) ?_
  refine zi_if_ne (tgt := 10) hx hb ⟨by omega, by omega⟩ dX3_firstOfSpan_1 (by decide) (fun c_1 => ?_) (fun c_1 => ?_)
  · have _ := c_1
    have h0 : ¬ i = 0 := by omega
    refine lv_aload_n hx hb dX3_firstOfSpan_10 rfl (lv_at hl 0 rfl) ?_
    refine va_get (D := g) (ci := 3) (v := Value.ref (ad 2)) (C := RX3) (T := TX3) (N := 3) hx hb hts in_X3_firstOfSpan_X3 hown hK.1 hP 0 (rfl) rfl 1 (by decide) (hts _ (List.mem_of_getElem? (i := 1) rfl) : (Cond.fieldLink RX3 9 "CordSeals$Reigns" "begin" "[I").before _ s = true) (fun _ h9 => h9) rfl dX3_firstOfSpan_11 ?_
    refine lv_iload_n hx hb dX3_firstOfSpan_14 rfl (lv_at hl 1 rfl) ?_
    refine lv_iconst (v := iI 1) hx hb dX3_firstOfSpan_15 (by decide) ?_
    refine zi_sub hx hb dX3_firstOfSpan_16 ?_
    refine zi_ald hx hb hK hP 1 (f := (R 2)) (rfl) (((i : Int) - 1).toNat) (by omega) (by omega) (by decide) dX3_firstOfSpan_17 ?_
    have hb_2 := hB 2 (((i : Int) - 1).toNat)
    exact zo_iret hx hb hr hlocks (by simp [kFirst, h0]) dX3_firstOfSpan_18
  · have _ := c_1
    have h0 : i = 0 := by omega
    refine lv_sipush (v := iI 1000) hx hb dX3_firstOfSpan_4 (by decide) ?_
    refine lv_goto (tgt := 18) hx hb dX3_firstOfSpan_7 (by decide) ?_
    exact zo_iret hx hb hr hlocks (by simp [kFirst, h0]) dX3_firstOfSpan_18

theorem cd_X3_lastOfSpan : cd yX3_lastOfSpan 1 := by decide +kernel
theorem in_X3_lastOfSpan_X3 : ∀ w ∈ wsX30, w ∈ wsX3_lastOfSpan := by decide +kernel
set_option maxHeartbeats 4000000 in
set_option maxRecDepth 100000 in
theorem c_X3_lastOfSpan (l : Launch) (g : va_G) (τ : Nat → ClassId) (ad : Nat → Nat) (R : Nat → Nat → Int) (hB : ∀ k j, -1 ≤ R k j ∧ R k j < 65536) (n : Nat) (hn : n ≤ 10) (hN : R 1 0 = (n : Int)) (i : Nat) (hi : i ≤ n) : Met l yX3_lastOfSpan wsX3_lastOfSpan { frames := 0, cells := 0, slots := 0, locals := 0 } (va_Pc [Value.ref (ad 1), Value.int (iI (i : Int))] (roW g τ (rgW ad R τ))) (roQ (some (Value.int (iI (kLast R n i))))) 0 0 nof := by
  refine roMet (cc := cX3_lastOfSpan) (maxL := 2) (ret := (some .int)) (lv := [(0, Value.ref (ad 1)), (1, Value.int (iI (i : Int)))]) (by decide) rfl (Nat.le_of_ble_eq_true rfl) rfl ?_
  intro p e s m below meth c hx hb hr hml hts hown hlocks hP hK ls hl
  refine lv_iload_n hx hb dX3_lastOfSpan_0 rfl (lv_at hl 1 rfl) ?_
  refine lv_aload_n hx hb dX3_lastOfSpan_1 rfl (lv_at hl 0 rfl) ?_
  refine va_get (D := g) (ci := 3) (v := Value.int (iI (R 1 0))) (C := RX3) (T := TX3) (N := 3) hx hb hts in_X3_lastOfSpan_X3 hown hK.1 hP 0 (rfl) rfl 0 (by decide) (hts _ (List.mem_of_getElem? (i := 1) rfl) : (Cond.fieldLink RX3 18 "CordSeals$Reigns" "count" "I").before _ s = true) (fun _ h9 => h9) rfl dX3_lastOfSpan_2 ?_
  have hb_1 := hB 1 0
  refine zi_icmp_ne (tgt := 14) hx hb ⟨by omega, by omega⟩ ⟨by omega, by omega⟩ dX3_lastOfSpan_5 (by decide) (fun c_2 => ?_) (fun c_2 => ?_)
  · have _ := c_2
    have h0 : ¬ i = n := by omega
    refine lv_aload_n hx hb dX3_lastOfSpan_14 rfl (lv_at hl 0 rfl) ?_
    refine va_get (D := g) (ci := 3) (v := Value.ref (ad 2)) (C := RX3) (T := TX3) (N := 3) hx hb hts in_X3_lastOfSpan_X3 hown hK.1 hP 0 (rfl) rfl 1 (by decide) (hts _ (List.mem_of_getElem? (i := 2) rfl) : (Cond.fieldLink RX3 9 "CordSeals$Reigns" "begin" "[I").before _ s = true) (fun _ h9 => h9) rfl dX3_lastOfSpan_15 ?_
    refine lv_iload_n hx hb dX3_lastOfSpan_18 rfl (lv_at hl 1 rfl) ?_
    refine zi_ald hx hb hK hP 1 (f := (R 2)) (rfl) (i) (rfl) (by omega) (by decide) dX3_lastOfSpan_19 ?_
    have hb_3 := hB 2 i
    refine lv_iconst (v := iI 1) hx hb dX3_lastOfSpan_20 (by decide) ?_
    refine zi_sub hx hb dX3_lastOfSpan_21 ?_
    exact zo_iret hx hb hr hlocks (by simp [kLast, h0]) dX3_lastOfSpan_22
  · have _ := c_2
    have h0 : i = n := by omega
    refine lv_sipush (v := iI 1999) hx hb dX3_lastOfSpan_8 (by decide) ?_
    refine lv_goto (tgt := 22) hx hb dX3_lastOfSpan_11 (by decide) ?_
    exact zo_iret hx hb hr hlocks (by simp [kLast, h0]) dX3_lastOfSpan_22

theorem cd_X3_endOf : cd yX3_endOf 1 := by decide +kernel
set_option maxHeartbeats 4000000 in
set_option maxRecDepth 100000 in
theorem c_X3_endOf (l : Launch) (g : va_G) (τ : Nat → ClassId) (ad : Nat → Nat) (R : Nat → Nat → Int) (hB : ∀ k j, -1 ≤ R k j ∧ R k j < 65536) (n : Nat) (hn : n ≤ 10) (hN : R 1 0 = (n : Int)) (r : Nat) (hr1 : r < n) : Met l yX3_endOf wsX3_endOf { frames := 1, cells := 0, slots := 0, locals := 21 } (va_Pc [Value.ref (ad 1), Value.int (iI (r : Int))] (roW g τ (rgW ad R τ))) (roQ (some (Value.int (iI (kLast R n (r + 1)))))) 0 0 nof := by
  refine roMet (cc := cX3_endOf) (maxL := 2) (ret := (some .int)) (lv := [(0, Value.ref (ad 1)), (1, Value.int (iI (r : Int)))]) (by decide) rfl (Nat.le_of_ble_eq_true rfl) rfl ?_
  intro p e s m below meth c hx hb hr hml hts hown hlocks hP hK ls hl
  refine lv_aload_n hx hb dX3_endOf_0 rfl (lv_at hl 0 rfl) ?_
  refine lv_iload_n hx hb dX3_endOf_1 rfl (lv_at hl 1 rfl) ?_
  refine lv_iconst (v := iI 1) hx hb dX3_endOf_2 (by decide) ?_
  refine zi_add hx hb dX3_endOf_3 ?_
  refine ro_V (As := [Value.int (iI ((r : Int) + 1))]) (rest := []) (v := some (Value.int (iI (kLast R n (r + 1))))) ⟨hx, hb, hml, hown, hts⟩ (c_X3_lastOfSpan l g τ ad R hB n hn hN (r + 1) (by omega)) gX3_endOf_X3_lastOfSpan cd_X3_lastOfSpan rfl rfl ⟨rfl, rfl⟩ ⟨Nat.le_of_ble_eq_true rfl, Nat.le_of_ble_eq_true rfl⟩ hK (hP) 0 rfl rfl rfl rfl hl rfl (Nat.le_of_ble_eq_true rfl) dX3_endOf_4 ⟨Nat.le_of_ble_eq_true rfl, Nat.le_of_ble_eq_true rfl⟩ ?_
  refine tl_some ?_
  exact zo_iret hx hb hr hlocks (rfl) dX3_endOf_7

theorem cd_X3_spanOf : cd yX3_spanOf 1 := by decide +kernel
theorem in_X3_spanOf_X3 : ∀ w ∈ wsX30, w ∈ wsX3_spanOf := by decide +kernel
set_option maxHeartbeats 4000000 in
set_option maxRecDepth 100000 in
theorem c_X3_spanOf (l : Launch) (g : va_G) (τ : Nat → ClassId) (ad : Nat → Nat) (R : Nat → Nat → Int) (hB : ∀ k j, -1 ≤ R k j ∧ R k j < 65536) (n : Nat) (hn : n ≤ 10) (hN : R 1 0 = (n : Int)) (y : Int) (ry : -2147483648 ≤ y ∧ y < 2147483648)  : Met l yX3_spanOf wsX3_spanOf { frames := 0, cells := 0, slots := 0, locals := 0 } (va_Pc [Value.ref (ad 1), Value.int (iI y)] (roW g τ (rgW ad R τ))) (roQ (some (Value.int (iI ((kSpan R n y : Nat) : Int))))) 0 0 nof := by
  refine roMet (cc := cX3_spanOf) (maxL := 3) (ret := (some .int)) (lv := [(0, Value.ref (ad 1)), (1, Value.int (iI y))]) (by decide) rfl (Nat.le_of_ble_eq_true rfl) rfl ?_
  intro p e s m below meth c hx hb hr hml hts hown hlocks hP hK ls hl
  refine lv_iconst (v := iI 0) hx hb dX3_spanOf_0 (by decide) ?_
  refine lv_istore_n (lv' := [(2, Value.int (iI 0)), (0, Value.ref (ad 1)), (1, Value.int (iI y))]) hx hb dX3_spanOf_1 rfl hl (by decide) rfl (fun ls hl => ?_)
  refine lp_up (fun i => [(2, Value.int (iI (i : Int))), (0, Value.ref (ad 1)), (1, Value.int (iI y))]) (fun i => ∀ j, j < i → decide (y < R 2 j) = false) (n) (0) (by omega) (by first | trivial | (intro j hj; omega)) (lv_eq (lv_sub hl [0, 1, 2] rfl) (by show [(2, Value.int (iI 0)), (0, Value.ref (ad 1)), (1, Value.int (iI y))] = [(2, Value.int (iI 0)), (0, Value.ref (ad 1)), (1, Value.int (iI y))]; rfl)) (fun i h0_i hi_i hI_i ih_2 ls hl => ?_)
  refine lv_iload_n hx hb dX3_spanOf_2 rfl (lv_at hl 0 rfl) ?_
  refine lv_aload_n hx hb dX3_spanOf_3 rfl (lv_at hl 1 rfl) ?_
  refine va_get (D := g) (ci := 3) (v := Value.int (iI (R 1 0))) (C := RX3) (T := TX3) (N := 3) hx hb hts in_X3_spanOf_X3 hown hK.1 hP 0 (rfl) rfl 0 (by decide) (hts _ (List.mem_of_getElem? (i := 1) rfl) : (Cond.fieldLink RX3 18 "CordSeals$Reigns" "count" "I").before _ s = true) (fun _ h9 => h9) rfl dX3_spanOf_4 ?_
  have hb_1 := hB 1 0
  refine zi_icmp_ge (tgt := 26) hx hb ⟨by omega, by omega⟩ ⟨by omega, by omega⟩ dX3_spanOf_7 (by decide) (fun c_2 => ?_) (fun c_2 => ?_)
  · have _ := c_2
    have h0_i : i = n := by omega
    refine lv_iload_n hx hb dX3_spanOf_26 rfl (lv_at hl 0 rfl) ?_
    exact zo_iret hx hb hr hlocks (by rw [kSpan, ← h0_i, fst_none hI_i]) dX3_spanOf_27
  · have _ := c_2
    have hl_i : i < n := by omega
    refine lv_aload_n hx hb dX3_spanOf_10 rfl (lv_at hl 1 rfl) ?_
    refine va_get (D := g) (ci := 3) (v := Value.ref (ad 2)) (C := RX3) (T := TX3) (N := 3) hx hb hts in_X3_spanOf_X3 hown hK.1 hP 0 (rfl) rfl 1 (by decide) (hts _ (List.mem_of_getElem? (i := 2) rfl) : (Cond.fieldLink RX3 9 "CordSeals$Reigns" "begin" "[I").before _ s = true) (fun _ h9 => h9) rfl dX3_spanOf_11 ?_
    refine lv_iload_n hx hb dX3_spanOf_14 rfl (lv_at hl 0 rfl) ?_
    refine zi_ald hx hb hK hP 1 (f := (R 2)) (rfl) (i) (rfl) (by omega) (by decide) dX3_spanOf_15 ?_
    have hb_3 := hB 2 i
    refine lv_iload_n hx hb dX3_spanOf_16 rfl (lv_at hl 2 rfl) ?_
    refine zi_icmp_gt (tgt := 26) hx hb ⟨by omega, by omega⟩ ⟨by omega, by omega⟩ dX3_spanOf_17 (by decide) (fun c_4 => ?_) (fun c_4 => ?_)
    · have _ := c_4
      refine lv_iload_n hx hb dX3_spanOf_26 rfl (lv_at hl 0 rfl) ?_
      exact zo_iret hx hb hr hlocks (by rw [kSpan, fst_some hI_i (by simp; omega) hl_i]) dX3_spanOf_27
    · have _ := c_4
      refine zi_inc (v := ((i + 1 : Nat) : Int)) (lv' := [(2, Value.int (iI ((i + 1 : Nat) : Int))), (0, Value.ref (ad 1)), (1, Value.int (iI y))]) hx hb dX3_spanOf_20 hl (k := 0) rfl (by omega) (by decide) rfl (fun ls hl => ?_)
      refine lv_goto (tgt := 2) hx hb dX3_spanOf_23 (by decide) ?_
      have hb_5 : (((i + 1) : Nat) : Int) = ((i + 1 : Nat) : Int) := by first | rfl | omega | (simp [c_2, c_4]; done)
      exact ih_2 hl_i (lt_step hI_i (by simp; omega)) _ (lv_eq (lv_sub hl [0, 1, 2] rfl) (by show [(2, Value.int (iI (((i + 1) : Nat) : Int))), (0, Value.ref (ad 1)), (1, Value.int (iI y))] = [(2, Value.int (iI ((i + 1 : Nat) : Int))), (0, Value.ref (ad 1)), (1, Value.int (iI y))]; rw [hb_5]))

theorem cd_X3_rightSpans : cd yX3_rightSpans 1 := by decide +kernel
theorem in_X3_rightSpans_X3 : ∀ w ∈ wsX30, w ∈ wsX3_rightSpans := by decide +kernel
set_option maxHeartbeats 4000000 in
set_option maxRecDepth 100000 in
theorem c_X3_rightSpans (l : Launch) (g : va_G) (τ : Nat → ClassId) (ad : Nat → Nat) (R : Nat → Nat → Int) (hB : ∀ k j, -1 ≤ R k j ∧ R k j < 65536) (n : Nat) (hn : n ≤ 10) (hN : R 1 0 = (n : Int)) (q : Int) (hq : -1 ≤ q ∧ q ≤ 7) (hC : ∀ j, j < n → 0 ≤ R 3 j) : Met l yX3_rightSpans wsX3_rightSpans { frames := 0, cells := 0, slots := 0, locals := 0 } (va_Pc [Value.ref (ad 1), Value.int (iI q)] (roW g τ (rgW ad R τ))) (roQ (some (Value.int (iI (kSpans R n q))))) 0 0 nof := by
  refine roMet (cc := cX3_rightSpans) (maxL := 4) (ret := (some .int)) (lv := [(0, Value.ref (ad 1)), (1, Value.int (iI q))]) (by decide) rfl (Nat.le_of_ble_eq_true rfl) rfl ?_
  intro p e s m below meth c hx hb hr hml hts hown hlocks hP hK ls hl
  refine lv_iload_n hx hb dX3_rightSpans_0 rfl (lv_at hl 1 rfl) ?_
  refine lv_iconst (v := iI (-1)) hx hb dX3_rightSpans_1 (by decide) ?_
  refine zi_icmp_ne (tgt := 16) hx hb ⟨by omega, by omega⟩ ⟨by decide, by decide⟩ dX3_rightSpans_2 (by decide) (fun c_1 => ?_) (fun c_1 => ?_)
  · have _ := c_1
    refine lv_iconst (v := iI 0) hx hb dX3_rightSpans_16 (by decide) ?_
    refine lv_istore_n (lv' := [(2, Value.int (iI 0)), (0, Value.ref (ad 1)), (1, Value.int (iI q))]) hx hb dX3_rightSpans_17 rfl hl (by decide) rfl (fun ls hl => ?_)
    refine lv_iconst (v := iI 0) hx hb dX3_rightSpans_18 (by decide) ?_
    refine lv_istore_n (lv' := [(3, Value.int (iI 0)), (2, Value.int (iI 0)), (0, Value.ref (ad 1)), (1, Value.int (iI q))]) hx hb dX3_rightSpans_19 rfl hl (by decide) rfl (fun ls hl => ?_)
    have h0_2 : kRight R q.toNat 0 = 0 := by first | rfl | omega | (simp [kRight, c_1]; done)
    refine lp_up (fun i => [(3, Value.int (iI (i : Int))), (2, Value.int (iI (kRight R q.toNat i))), (0, Value.ref (ad 1)), (1, Value.int (iI q))]) (fun i => True) (n) (0) (by omega) (by first | trivial | (intro j hj; omega)) (lv_eq (lv_sub hl [0, 1, 2, 3] rfl) (by show [(3, Value.int (iI 0)), (2, Value.int (iI (kRight R q.toNat 0))), (0, Value.ref (ad 1)), (1, Value.int (iI q))] = [(3, Value.int (iI 0)), (2, Value.int (iI 0)), (0, Value.ref (ad 1)), (1, Value.int (iI q))]; rw [h0_2])) (fun i h0_i hi_i hI_i ih_20 ls hl => ?_)
    have hp := kRight_r R q.toNat
    refine lv_iload_n hx hb dX3_rightSpans_20 rfl (lv_at hl 0 rfl) ?_
    refine lv_aload_n hx hb dX3_rightSpans_21 rfl (lv_at hl 2 rfl) ?_
    refine va_get (D := g) (ci := 3) (v := Value.int (iI (R 1 0))) (C := RX3) (T := TX3) (N := 3) hx hb hts in_X3_rightSpans_X3 hown hK.1 hP 0 (rfl) rfl 0 (by decide) (hts _ (List.mem_of_getElem? (i := 1) rfl) : (Cond.fieldLink RX3 18 "CordSeals$Reigns" "count" "I").before _ s = true) (fun _ h9 => h9) rfl dX3_rightSpans_22 ?_
    have hb_3 := hB 1 0
    refine zi_icmp_ge (tgt := 55) hx hb ⟨by omega, by omega⟩ ⟨by omega, by omega⟩ dX3_rightSpans_25 (by decide) (fun c_4 => ?_) (fun c_4 => ?_)
    · have _ := c_4
      have h0_i : i = n := by omega
      refine lv_iload_n hx hb dX3_rightSpans_55 rfl (lv_at hl 1 rfl) ?_
      exact zo_iret hx hb hr hlocks (by rw [kSpans, if_neg (by assumption), h0_i]) dX3_rightSpans_56
    · have _ := c_4
      have hl_i : i < n := by omega
      refine lv_aload_n hx hb dX3_rightSpans_28 rfl (lv_at hl 2 rfl) ?_
      refine va_get (D := g) (ci := 3) (v := Value.ref (ad 3)) (C := RX3) (T := TX3) (N := 3) hx hb hts in_X3_rightSpans_X3 hown hK.1 hP 0 (rfl) rfl 2 (by decide) (hts _ (List.mem_of_getElem? (i := 2) rfl) : (Cond.fieldLink RX3 15 "CordSeals$Reigns" "colours" "[I").before _ s = true) (fun _ h9 => h9) rfl dX3_rightSpans_29 ?_
      refine lv_iload_n hx hb dX3_rightSpans_32 rfl (lv_at hl 0 rfl) ?_
      refine zi_ald hx hb hK hP 2 (f := (R 3)) (rfl) (i) (rfl) (by omega) (by decide) dX3_rightSpans_33 ?_
      have hb_5 := hB 3 i
      refine lv_iload_n hx hb dX3_rightSpans_34 rfl (lv_at hl 3 rfl) ?_
      refine zi_bit ((q).toNat) (by omega) (by omega) ⟨hC i hl_i, by omega⟩ hx hb dX3_rightSpans_35 dX3_rightSpans_36 dX3_rightSpans_37 ?_
      refine zb_if_eq (tgt := 49) hx hb dX3_rightSpans_38 (by decide) (fun c_6 => ?_) (fun c_6 => ?_)
      · have _ := c_6
        refine zi_inc (v := ((i + 1 : Nat) : Int)) (lv' := [(3, Value.int (iI ((i + 1 : Nat) : Int))), (2, Value.int (iI (kRight R q.toNat i))), (0, Value.ref (ad 1)), (1, Value.int (iI q))]) hx hb dX3_rightSpans_49 hl (k := 0) rfl (by omega) (by decide) rfl (fun ls hl => ?_)
        refine lv_goto (tgt := 20) hx hb dX3_rightSpans_52 (by decide) ?_
        have hb_7 : (((i + 1) : Nat) : Int) = ((i + 1 : Nat) : Int) := by first | rfl | omega | (simp [kRight, c_1, c_4, c_6]; done)
        have hb_8 : kRight R q.toNat (i + 1) = kRight R q.toNat i := by first | rfl | omega | (simp [kRight, c_1, c_4, c_6]; done)
        exact ih_20 hl_i (trivial) _ (lv_eq (lv_sub hl [0, 1, 2, 3] rfl) (by show [(3, Value.int (iI (((i + 1) : Nat) : Int))), (2, Value.int (iI (kRight R q.toNat (i + 1)))), (0, Value.ref (ad 1)), (1, Value.int (iI q))] = [(3, Value.int (iI ((i + 1 : Nat) : Int))), (2, Value.int (iI (kRight R q.toNat i))), (0, Value.ref (ad 1)), (1, Value.int (iI q))]; rw [hb_7, hb_8]))
      · have _ := c_6
        refine lv_iload_n hx hb dX3_rightSpans_41 rfl (lv_at hl 1 rfl) ?_
        refine lv_iconst (v := iI 1) hx hb dX3_rightSpans_42 (by decide) ?_
        refine lv_iload_n hx hb dX3_rightSpans_43 rfl (lv_at hl 0 rfl) ?_
        refine lv_iconst (v := iI 1) hx hb dX3_rightSpans_44 (by decide) ?_
        refine zi_add hx hb dX3_rightSpans_45 ?_
        refine zi_shl1 (i + 1) (by omega) (by omega) hx hb dX3_rightSpans_46 ?_
        refine zi_or hx hb ⟨(hp i).1, Int.le_of_lt (Int.pow_pos (by decide))⟩ dX3_rightSpans_47 ?_
        refine lv_istore_n (lv' := [(2, Value.int (iI (zor (kRight R q.toNat i) ((2 : Int) ^ (i + 1))))), (3, Value.int (iI (i : Int))), (0, Value.ref (ad 1)), (1, Value.int (iI q))]) hx hb dX3_rightSpans_48 rfl hl (by decide) rfl (fun ls hl => ?_)
        refine zi_inc (v := ((i + 1 : Nat) : Int)) (lv' := [(3, Value.int (iI ((i + 1 : Nat) : Int))), (2, Value.int (iI (zor (kRight R q.toNat i) ((2 : Int) ^ (i + 1))))), (0, Value.ref (ad 1)), (1, Value.int (iI q))]) hx hb dX3_rightSpans_49 hl (k := 1) rfl (by omega) (by decide) rfl (fun ls hl => ?_)
        refine lv_goto (tgt := 20) hx hb dX3_rightSpans_52 (by decide) ?_
        have hb_9 : (((i + 1) : Nat) : Int) = ((i + 1 : Nat) : Int) := by first | rfl | omega | (simp [kRight, c_1, c_4, c_6]; done)
        have hb_10 : kRight R q.toNat (i + 1) = zor (kRight R q.toNat i) ((2 : Int) ^ (i + 1)) := by first | rfl | omega | (simp [kRight, c_1, c_4, c_6]; done)
        exact ih_20 hl_i (trivial) _ (lv_eq (lv_sub hl [0, 1, 2, 3] rfl) (by show [(3, Value.int (iI (((i + 1) : Nat) : Int))), (2, Value.int (iI (kRight R q.toNat (i + 1)))), (0, Value.ref (ad 1)), (1, Value.int (iI q))] = [(3, Value.int (iI ((i + 1 : Nat) : Int))), (2, Value.int (iI (zor (kRight R q.toNat i) ((2 : Int) ^ (i + 1))))), (0, Value.ref (ad 1)), (1, Value.int (iI q))]; rw [hb_9, hb_10]))
  · have _ := c_1
    refine lv_iconst (v := iI 1) hx hb dX3_rightSpans_5 (by decide) ?_
    refine lv_aload_n hx hb dX3_rightSpans_6 rfl (lv_at hl 0 rfl) ?_
    refine va_get (D := g) (ci := 3) (v := Value.int (iI (R 1 0))) (C := RX3) (T := TX3) (N := 3) hx hb hts in_X3_rightSpans_X3 hown hK.1 hP 0 (rfl) rfl 0 (by decide) (hts _ (List.mem_of_getElem? (i := 1) rfl) : (Cond.fieldLink RX3 18 "CordSeals$Reigns" "count" "I").before _ s = true) (fun _ h9 => h9) rfl dX3_rightSpans_7 ?_
    have hb_11 := hB 1 0
    refine lv_iconst (v := iI 1) hx hb dX3_rightSpans_10 (by decide) ?_
    refine zi_add hx hb dX3_rightSpans_11 ?_
    refine zi_shl1 (n + 1) (by omega) (by omega) hx hb dX3_rightSpans_12 ?_
    refine lv_iconst (v := iI 1) hx hb dX3_rightSpans_13 (by decide) ?_
    refine zi_sub hx hb dX3_rightSpans_14 ?_
    exact zo_iret hx hb hr hlocks (by rw [kSpans, if_pos (by omega)]) dX3_rightSpans_15

theorem cd_X0_has : cd yX0_has 1 := by decide +kernel
theorem in_X0_has_X0 : ∀ w ∈ wsX00, w ∈ wsX0_has := by decide +kernel
set_option maxHeartbeats 4000000 in
set_option maxRecDepth 100000 in
theorem c_X0_has (l : Launch) (g : va_G) (τ : Nat → ClassId) (ad : Nat → Nat) (R : Nat → Nat → Int) (hB : ∀ k j, -1 ≤ R k j ∧ R k j < 65536) (d : Int) (rd : -2147483648 ≤ d ∧ d < 2147483648)  : Met l yX0_has wsX0_has { frames := 0, cells := 0, slots := 0, locals := 0 } (va_Pc [Value.ref (ad 4), Value.int (iI d)] (roW g τ (dsW ad R τ))) (roQ (some (Value.int (iI (zB (dHas (R 4 0) d)))))) 0 0 nof := by
  refine roMet (cc := cX0_has) (maxL := 2) (ret := (some .boolean)) (lv := [(0, Value.ref (ad 4)), (1, Value.int (iI d))]) (by decide) rfl (Nat.le_of_ble_eq_true rfl) rfl ?_
  intro p e s m below meth c hx hb hr hml hts hown hlocks hP hK ls hl
  refine lv_iload_n hx hb dX0_has_0 rfl (lv_at hl 1 rfl) ?_
  refine zi_if_lt (tgt := 16) hx hb ⟨by omega, by omega⟩ dX0_has_1 (by decide) (fun c_1 => ?_) (fun c_1 => ?_)
  · have _ := c_1
    refine lv_iconst (v := iI 0) hx hb dX0_has_16 (by decide) ?_
    exact zo_zret hx hb hr hlocks (by simp [dHas, zB]; try omega) dX0_has_17
  · have _ := c_1
    refine lv_iload_n hx hb dX0_has_4 rfl (lv_at hl 1 rfl) ?_
    refine lv_aload_n hx hb dX0_has_5 rfl (lv_at hl 0 rfl) ?_
    refine va_get (D := g) (ci := 0) (v := Value.int (iI (R 4 0))) (C := RX0) (T := TX0) (N := 6) hx hb hts in_X0_has_X0 hown hK.1 hP 0 (rfl) rfl 0 (by decide) (hts _ (List.mem_of_getElem? (i := 1) rfl) : (Cond.fieldLink RX0 27 "CordSeals$Dies" "count" "I").before _ s = true) (fun _ h9 => h9) rfl dX0_has_6 ?_
    have hb_2 := hB 4 0
    refine zi_icmp_ge (tgt := 16) hx hb ⟨by omega, by omega⟩ ⟨by omega, by omega⟩ dX0_has_9 (by decide) (fun c_3 => ?_) (fun c_3 => ?_)
    · have _ := c_3
      refine lv_iconst (v := iI 0) hx hb dX0_has_16 (by decide) ?_
      exact zo_zret hx hb hr hlocks (by simp [dHas, zB]; try omega) dX0_has_17
    · have _ := c_3
      refine lv_iconst (v := iI 1) hx hb dX0_has_12 (by decide) ?_
      refine lv_goto (tgt := 17) hx hb dX0_has_13 (by decide) ?_
      exact zo_zret hx hb hr hlocks (by simp [dHas, zB]; try omega) dX0_has_17

theorem cd_X0_yearOfCrack : cd yX0_yearOfCrack 2 := by decide +kernel
theorem in_X0_yearOfCrack_X0 : ∀ w ∈ wsX00, w ∈ wsX0_yearOfCrack := by decide +kernel
set_option maxHeartbeats 4000000 in
set_option maxRecDepth 100000 in
theorem c_X0_yearOfCrack (l : Launch) (g : va_G) (τ : Nat → ClassId) (ad : Nat → Nat) (R : Nat → Nat → Int) (hB : ∀ k j, -1 ≤ R k j ∧ R k j < 65536) (d k : Nat) (hd : d < 10) (hk : k < 4) : Met l yX0_yearOfCrack wsX0_yearOfCrack { frames := 0, cells := 0, slots := 0, locals := 0 } (va_Pc [Value.ref (ad 4), Value.int (iI (d : Int)), Value.int (iI (k : Int))] (roW g τ (dsW ad R τ))) (roQ (some (Value.int (iI (R 9 (d * 4 + k)))))) 0 0 nof := by
  refine roMet (cc := cX0_yearOfCrack) (maxL := 3) (ret := (some .int)) (lv := [(0, Value.ref (ad 4)), (1, Value.int (iI (d : Int))), (2, Value.int (iI (k : Int)))]) (by decide) rfl (Nat.le_of_ble_eq_true rfl) rfl ?_
  intro p e s m below meth c hx hb hr hml hts hown hlocks hP hK ls hl
  refine lv_aload_n hx hb dX0_yearOfCrack_0 rfl (lv_at hl 0 rfl) ?_
  refine va_get (D := g) (ci := 0) (v := Value.ref (ad 9)) (C := RX0) (T := TX0) (N := 6) hx hb hts in_X0_yearOfCrack_X0 hown hK.1 hP 0 (rfl) rfl 5 (by decide) (hts _ (List.mem_of_getElem? (i := 1) rfl) : (Cond.fieldLink RX0 24 "CordSeals$Dies" "crackYears" "[I").before _ s = true) (fun _ h9 => h9) rfl dX0_yearOfCrack_1 ?_
  refine lv_iload_n hx hb dX0_yearOfCrack_4 rfl (lv_at hl 1 rfl) ?_
  refine lv_iconst (v := iI 4) hx hb dX0_yearOfCrack_5 (by decide) ?_
  refine zi_mul hx hb dX0_yearOfCrack_6 ?_
  refine lv_iload_n hx hb dX0_yearOfCrack_7 rfl (lv_at hl 2 rfl) ?_
  refine zi_add hx hb dX0_yearOfCrack_8 ?_
  refine zi_ald hx hb hK hP 5 (f := (R 9)) (rfl) ((d * 4) + k) (by omega) (by omega) (by decide) dX0_yearOfCrack_9 ?_
  have hb_1 := hB 9 ((d * 4) + k)
  exact zo_iret hx hb hr hlocks (rfl) dX0_yearOfCrack_10

theorem cd_X0_crackedIn : cd yX0_crackedIn 2 := by decide +kernel
theorem in_X0_crackedIn_X0 : ∀ w ∈ wsX00, w ∈ wsX0_crackedIn := by decide +kernel
set_option maxHeartbeats 4000000 in
set_option maxRecDepth 100000 in
theorem c_X0_crackedIn (l : Launch) (g : va_G) (τ : Nat → ClassId) (ad : Nat → Nat) (R : Nat → Nat → Int) (hB : ∀ k j, -1 ≤ R k j ∧ R k j < 65536) (d mm : Nat) (hd : d < 10) (hm : mm ≤ 4) (hM : R 8 d = (mm : Int)) (y : Int) (ry : -2147483648 ≤ y ∧ y < 2147483648)  : Met l yX0_crackedIn wsX0_crackedIn { frames := 1, cells := 0, slots := 0, locals := 22 } (va_Pc [Value.ref (ad 4), Value.int (iI (d : Int)), Value.int (iI y)] (roW g τ (dsW ad R τ))) (roQ (some (Value.int (iI (zB (dIn R d mm y)))))) 0 0 nof := by
  refine roMet (cc := cX0_crackedIn) (maxL := 4) (ret := (some .boolean)) (lv := [(0, Value.ref (ad 4)), (1, Value.int (iI (d : Int))), (2, Value.int (iI y))]) (by decide) rfl (Nat.le_of_ble_eq_true rfl) rfl ?_
  intro p e s m below meth c hx hb hr hml hts hown hlocks hP hK ls hl
  refine lv_iconst (v := iI 0) hx hb dX0_crackedIn_0 (by decide) ?_
  refine lv_istore_n (lv' := [(3, Value.int (iI 0)), (0, Value.ref (ad 4)), (1, Value.int (iI (d : Int))), (2, Value.int (iI y))]) hx hb dX0_crackedIn_1 rfl hl (by decide) rfl (fun ls hl => ?_)
  refine lp_up (fun i => [(3, Value.int (iI (i : Int))), (0, Value.ref (ad 4)), (1, Value.int (iI (d : Int))), (2, Value.int (iI y))]) (fun i => ∀ j, j < i → decide (R 9 (d * 4 + j) = y) = false) (mm) (0) (by omega) (by first | trivial | (intro j hj; omega)) (lv_eq (lv_sub hl [0, 1, 2, 3] rfl) (by show [(3, Value.int (iI 0)), (0, Value.ref (ad 4)), (1, Value.int (iI (d : Int))), (2, Value.int (iI y))] = [(3, Value.int (iI 0)), (0, Value.ref (ad 4)), (1, Value.int (iI (d : Int))), (2, Value.int (iI y))]; rfl)) (fun i h0_i hi_i hI_i ih_2 ls hl => ?_)
  refine lv_iload_n hx hb dX0_crackedIn_2 rfl (lv_at hl 0 rfl) ?_
  refine lv_aload_n hx hb dX0_crackedIn_3 rfl (lv_at hl 1 rfl) ?_
  refine va_get (D := g) (ci := 0) (v := Value.ref (ad 8)) (C := RX0) (T := TX0) (N := 6) hx hb hts in_X0_crackedIn_X0 hown hK.1 hP 0 (rfl) rfl 4 (by decide) (hts _ (List.mem_of_getElem? (i := 1) rfl) : (Cond.fieldLink RX0 21 "CordSeals$Dies" "cracks" "[I").before _ s = true) (fun _ h9 => h9) rfl dX0_crackedIn_4 ?_
  refine lv_iload_n hx hb dX0_crackedIn_7 rfl (lv_at hl 2 rfl) ?_
  refine zi_ald hx hb hK hP 4 (f := (R 8)) (rfl) (d) (rfl) (by omega) (by decide) dX0_crackedIn_8 ?_
  have hb_1 := hB 8 d
  refine zi_icmp_ge (tgt := 30) hx hb ⟨by omega, by omega⟩ ⟨by omega, by omega⟩ dX0_crackedIn_9 (by decide) (fun c_2 => ?_) (fun c_2 => ?_)
  · have _ := c_2
    have h0_i : i = mm := by omega
    refine lv_iconst (v := iI 0) hx hb dX0_crackedIn_30 (by decide) ?_
    exact zo_zret hx hb hr hlocks (by first | (rw [dIn, ← h0_i, anyB_f hI_i]; rfl) | (rw [dIn, anyB_t (i := i) (by simp; omega) hl_i]; rfl)) dX0_crackedIn_31
  · have _ := c_2
    have hl_i : i < mm := by omega
    refine lv_aload_n hx hb dX0_crackedIn_12 rfl (lv_at hl 1 rfl) ?_
    refine lv_iload_n hx hb dX0_crackedIn_13 rfl (lv_at hl 2 rfl) ?_
    refine lv_iload_n hx hb dX0_crackedIn_14 rfl (lv_at hl 0 rfl) ?_
    refine ro_V (As := [Value.int (iI (d : Int)), Value.int (iI (i : Int))]) (rest := []) (v := some (Value.int (iI (R 9 (d * 4 + i))))) ⟨hx, hb, hml, hown, hts⟩ (c_X0_yearOfCrack l g τ ad R hB d i (by omega) (by omega)) gX0_crackedIn_X0_yearOfCrack cd_X0_yearOfCrack rfl rfl ⟨rfl, rfl⟩ ⟨Nat.le_of_ble_eq_true rfl, Nat.le_of_ble_eq_true rfl⟩ hK hP 0 rfl rfl rfl rfl hl rfl (Nat.le_of_ble_eq_true rfl) dX0_crackedIn_15 ⟨Nat.le_of_ble_eq_true rfl, Nat.le_of_ble_eq_true rfl⟩ ?_
    refine tl_some ?_
    have hb_3 := hB 9 (d * 4 + i)
    refine lv_iload_n hx hb dX0_crackedIn_18 rfl (lv_at hl 3 rfl) ?_
    refine zi_icmp_ne (tgt := 24) hx hb ⟨by omega, by omega⟩ ⟨by omega, by omega⟩ dX0_crackedIn_19 (by decide) (fun c_4 => ?_) (fun c_4 => ?_)
    · have _ := c_4
      refine zi_inc (v := ((i + 1 : Nat) : Int)) (lv' := [(3, Value.int (iI ((i + 1 : Nat) : Int))), (0, Value.ref (ad 4)), (1, Value.int (iI (d : Int))), (2, Value.int (iI y))]) hx hb dX0_crackedIn_24 hl (k := 0) rfl (by omega) (by decide) rfl (fun ls hl => ?_)
      refine lv_goto (tgt := 2) hx hb dX0_crackedIn_27 (by decide) ?_
      have hb_5 : (((i + 1) : Nat) : Int) = ((i + 1 : Nat) : Int) := by first | rfl | omega | (simp [c_2, c_4]; done)
      exact ih_2 hl_i (lt_step hI_i (by simp; omega)) _ (lv_eq (lv_sub hl [0, 1, 2, 3] rfl) (by show [(3, Value.int (iI (((i + 1) : Nat) : Int))), (0, Value.ref (ad 4)), (1, Value.int (iI (d : Int))), (2, Value.int (iI y))] = [(3, Value.int (iI ((i + 1 : Nat) : Int))), (0, Value.ref (ad 4)), (1, Value.int (iI (d : Int))), (2, Value.int (iI y))]; rw [hb_5]))
    · have _ := c_4
      refine lv_iconst (v := iI 1) hx hb dX0_crackedIn_22 (by decide) ?_
      exact zo_zret hx hb hr hlocks (by first | (rw [dIn, ← h0_i, anyB_f hI_i]; rfl) | (rw [dIn, anyB_t (i := i) (by simp; omega) hl_i]; rfl)) dX0_crackedIn_23

theorem cd_X0_firstYear : cd yX0_firstYear 2 := by decide +kernel
theorem in_X0_firstYear_X0 : ∀ w ∈ wsX00, w ∈ wsX0_firstYear := by decide +kernel
set_option maxHeartbeats 4000000 in
set_option maxRecDepth 100000 in
theorem c_X0_firstYear (l : Launch) (g : va_G) (τ : Nat → ClassId) (ad : Nat → Nat) (R : Nat → Nat → Int) (hB : ∀ k j, -1 ≤ R k j ∧ R k j < 65536) (d mm : Nat) (hd : d < 10) (hm : mm ≤ 4) (hM : R 8 d = (mm : Int)) (sh : Int) (hsh : 0 ≤ sh ∧ sh < 65536) : Met l yX0_firstYear wsX0_firstYear { frames := 1, cells := 0, slots := 0, locals := 22 } (va_Pc [Value.ref (ad 4), Value.int (iI (d : Int)), Value.int (iI sh)] (roW g τ (dsW ad R τ))) (roQ (some (Value.int (iI (dFirst R d sh mm))))) 0 0 nof := by
  refine roMet (cc := cX0_firstYear) (maxL := 5) (ret := (some .int)) (lv := [(0, Value.ref (ad 4)), (1, Value.int (iI (d : Int))), (2, Value.int (iI sh))]) (by decide) rfl (Nat.le_of_ble_eq_true rfl) rfl ?_
  intro p e s m below meth c hx hb hr hml hts hown hlocks hP hK ls hl
  refine lv_aload_n hx hb dX0_firstYear_0 rfl (lv_at hl 0 rfl) ?_
  refine va_get (D := g) (ci := 0) (v := Value.ref (ad 6)) (C := RX0) (T := TX0) (N := 6) hx hb hts in_X0_firstYear_X0 hown hK.1 hP 0 (rfl) rfl 2 (by decide) (hts _ (List.mem_of_getElem? (i := 1) rfl) : (Cond.fieldLink RX0 15 "CordSeals$Dies" "from" "[I").before _ s = true) (fun _ h9 => h9) rfl dX0_firstYear_1 ?_
  refine lv_iload_n hx hb dX0_firstYear_4 rfl (lv_at hl 1 rfl) ?_
  refine zi_ald hx hb hK hP 2 (f := (R 6)) (rfl) (d) (rfl) (by omega) (by decide) dX0_firstYear_5 ?_
  have hb_1 := hB 6 d
  refine lv_istore_n (lv' := [(3, Value.int (iI (R 6 d))), (0, Value.ref (ad 4)), (1, Value.int (iI (d : Int))), (2, Value.int (iI sh))]) hx hb dX0_firstYear_6 rfl hl (by decide) rfl (fun ls hl => ?_)
  refine lv_iconst (v := iI 0) hx hb dX0_firstYear_7 (by decide) ?_
  refine lv_istore (lv' := [(4, Value.int (iI 0)), (3, Value.int (iI (R 6 d))), (0, Value.ref (ad 4)), (1, Value.int (iI (d : Int))), (2, Value.int (iI sh))]) hx hb dX0_firstYear_8 hl (by decide) rfl (fun ls hl => ?_)
  have h0_2 : dFirst R d sh 0 = R 6 d := by first | rfl | omega | (simp [dFirst]; done)
  refine lp_up (fun i => [(4, Value.int (iI (i : Int))), (3, Value.int (iI (dFirst R d sh i))), (0, Value.ref (ad 4)), (1, Value.int (iI (d : Int))), (2, Value.int (iI sh))]) (fun i => True) (mm) (0) (by omega) (by first | trivial | (intro j hj; omega)) (lv_eq (lv_sub hl [0, 1, 2, 3, 4] rfl) (by show [(4, Value.int (iI 0)), (3, Value.int (iI (dFirst R d sh 0))), (0, Value.ref (ad 4)), (1, Value.int (iI (d : Int))), (2, Value.int (iI sh))] = [(4, Value.int (iI 0)), (3, Value.int (iI (R 6 d))), (0, Value.ref (ad 4)), (1, Value.int (iI (d : Int))), (2, Value.int (iI sh))]; rw [h0_2])) (fun i h0_i hi_i hI_i ih_10 ls hl => ?_)
  have hp := dFirst_r R hB d sh
  refine lv_iload hx hb dX0_firstYear_10 (lv_at hl 0 rfl) ?_
  refine lv_aload_n hx hb dX0_firstYear_12 rfl (lv_at hl 2 rfl) ?_
  refine va_get (D := g) (ci := 0) (v := Value.ref (ad 8)) (C := RX0) (T := TX0) (N := 6) hx hb hts in_X0_firstYear_X0 hown hK.1 hP 0 (rfl) rfl 4 (by decide) (hts _ (List.mem_of_getElem? (i := 2) rfl) : (Cond.fieldLink RX0 21 "CordSeals$Dies" "cracks" "[I").before _ s = true) (fun _ h9 => h9) rfl dX0_firstYear_13 ?_
  refine lv_iload_n hx hb dX0_firstYear_16 rfl (lv_at hl 3 rfl) ?_
  refine zi_ald hx hb hK hP 4 (f := (R 8)) (rfl) (d) (rfl) (by omega) (by decide) dX0_firstYear_17 ?_
  have hb_3 := hB 8 d
  refine zi_icmp_ge (tgt := 48) hx hb ⟨by omega, by omega⟩ ⟨by omega, by omega⟩ dX0_firstYear_18 (by decide) (fun c_4 => ?_) (fun c_4 => ?_)
  · have _ := c_4
    have h0_i : i = mm := by omega
    refine lv_iload_n hx hb dX0_firstYear_48 rfl (lv_at hl 1 rfl) ?_
    exact zo_iret hx hb hr hlocks (by rw [h0_i]) dX0_firstYear_49
  · have _ := c_4
    have hl_i : i < mm := by omega
    refine lv_iload_n hx hb dX0_firstYear_21 rfl (lv_at hl 4 rfl) ?_
    refine lv_iload hx hb dX0_firstYear_22 (lv_at hl 0 rfl) ?_
    refine zi_bit (i) (rfl) (by omega) ⟨by omega, by omega⟩ hx hb dX0_firstYear_24 dX0_firstYear_25 dX0_firstYear_26 ?_
    refine zb_if_eq (tgt := 42) hx hb dX0_firstYear_27 (by decide) (fun c_5 => ?_) (fun c_5 => ?_)
    · have _ := c_5
      have hq := hp i
      have hq2 := hB 9 (d * 4 + i)
      refine zi_inc (v := ((i + 1 : Nat) : Int)) (lv' := [(4, Value.int (iI ((i + 1 : Nat) : Int))), (3, Value.int (iI (dFirst R d sh i))), (0, Value.ref (ad 4)), (1, Value.int (iI (d : Int))), (2, Value.int (iI sh))]) hx hb dX0_firstYear_42 hl (k := 0) rfl (by omega) (by decide) rfl (fun ls hl => ?_)
      refine lv_goto (tgt := 10) hx hb dX0_firstYear_45 (by decide) ?_
      have hb_6 : (((i + 1) : Nat) : Int) = ((i + 1 : Nat) : Int) := by first | rfl | omega | (simp [dFirst, c_4, c_5]; done)
      have hb_7 : dFirst R d sh (i + 1) = dFirst R d sh i := by first | rfl | omega | (simp [dFirst, c_4, c_5]; done)
      exact ih_10 hl_i (trivial) _ (lv_eq (lv_sub hl [0, 1, 2, 3, 4] rfl) (by show [(4, Value.int (iI (((i + 1) : Nat) : Int))), (3, Value.int (iI (dFirst R d sh (i + 1)))), (0, Value.ref (ad 4)), (1, Value.int (iI (d : Int))), (2, Value.int (iI sh))] = [(4, Value.int (iI ((i + 1 : Nat) : Int))), (3, Value.int (iI (dFirst R d sh i))), (0, Value.ref (ad 4)), (1, Value.int (iI (d : Int))), (2, Value.int (iI sh))]; rw [hb_6, hb_7]))
    · have _ := c_5
      have hq := hp i
      have hq2 := hB 9 (d * 4 + i)
      refine lv_iload_n hx hb dX0_firstYear_30 rfl (lv_at hl 1 rfl) ?_
      refine lv_aload_n hx hb dX0_firstYear_31 rfl (lv_at hl 2 rfl) ?_
      refine lv_iload_n hx hb dX0_firstYear_32 rfl (lv_at hl 3 rfl) ?_
      refine lv_iload hx hb dX0_firstYear_33 (lv_at hl 0 rfl) ?_
      refine ro_V (As := [Value.int (iI (d : Int)), Value.int (iI (i : Int))]) (rest := [Value.int (iI (dFirst R d sh i))]) (v := some (Value.int (iI (R 9 (d * 4 + i))))) ⟨hx, hb, hml, hown, hts⟩ (c_X0_yearOfCrack l g τ ad R hB d i (by omega) (by omega)) gX0_firstYear_X0_yearOfCrack cd_X0_yearOfCrack rfl rfl ⟨rfl, rfl⟩ ⟨Nat.le_of_ble_eq_true rfl, Nat.le_of_ble_eq_true rfl⟩ hK hP 0 rfl rfl rfl rfl hl rfl (Nat.le_of_ble_eq_true rfl) dX0_firstYear_35 ⟨Nat.le_of_ble_eq_true rfl, Nat.le_of_ble_eq_true rfl⟩ ?_
      refine tl_some ?_
      have hb_8 := hB 9 (d * 4 + i)
      refine zi_max hx hb (hml.trans hl.1.symm) ⟨by omega, by omega⟩ ⟨by omega, by omega⟩ hown (hts _ (List.mem_of_getElem? (i := 3) rfl) : (Cond.methodLink RX0 41 Lib.Math.max.name).before _ s = true) (hts _ (List.mem_of_getElem? (i := 4) rfl) : (Cond.static Lib.Math.max.name).before _ s = true) (hts _ (List.mem_of_getElem? (i := 5) rfl) : (Cond.initialized "java/lang/Math").before _ s = true) (hts _ (List.mem_of_getElem? (i := 6) rfl) : (Cond.code Lib.Math.max.name Lib.Math.max.code 2 (some .int)).before _ s = true) (Nat.le_of_ble_eq_true rfl) (Nat.le_of_ble_eq_true rfl) (Nat.le_of_ble_eq_true rfl) (Nat.le_of_ble_eq_true rfl) dX0_firstYear_38 ?_
      refine lv_istore_n (lv' := [(3, Value.int (iI (max (dFirst R d sh i) (R 9 (d * 4 + i))))), (4, Value.int (iI (i : Int))), (0, Value.ref (ad 4)), (1, Value.int (iI (d : Int))), (2, Value.int (iI sh))]) hx hb dX0_firstYear_41 rfl hl (by decide) rfl (fun ls hl => ?_)
      refine zi_inc (v := ((i + 1 : Nat) : Int)) (lv' := [(4, Value.int (iI ((i + 1 : Nat) : Int))), (3, Value.int (iI (max (dFirst R d sh i) (R 9 (d * 4 + i))))), (0, Value.ref (ad 4)), (1, Value.int (iI (d : Int))), (2, Value.int (iI sh))]) hx hb dX0_firstYear_42 hl (k := 1) rfl (by omega) (by decide) rfl (fun ls hl => ?_)
      refine lv_goto (tgt := 10) hx hb dX0_firstYear_45 (by decide) ?_
      have hb_9 : (((i + 1) : Nat) : Int) = ((i + 1 : Nat) : Int) := by first | rfl | omega | (simp [dFirst, c_4, c_5]; done)
      have hb_10 : dFirst R d sh (i + 1) = max (dFirst R d sh i) (R 9 (d * 4 + i)) := by first | rfl | omega | (simp [dFirst, c_4, c_5]; done)
      exact ih_10 hl_i (trivial) _ (lv_eq (lv_sub hl [0, 1, 2, 3, 4] rfl) (by show [(4, Value.int (iI (((i + 1) : Nat) : Int))), (3, Value.int (iI (dFirst R d sh (i + 1)))), (0, Value.ref (ad 4)), (1, Value.int (iI (d : Int))), (2, Value.int (iI sh))] = [(4, Value.int (iI ((i + 1 : Nat) : Int))), (3, Value.int (iI (max (dFirst R d sh i) (R 9 (d * 4 + i))))), (0, Value.ref (ad 4)), (1, Value.int (iI (d : Int))), (2, Value.int (iI sh))]; rw [hb_9, hb_10]))

theorem cd_X0_lastYear : cd yX0_lastYear 2 := by decide +kernel
theorem in_X0_lastYear_X0 : ∀ w ∈ wsX00, w ∈ wsX0_lastYear := by decide +kernel
set_option maxHeartbeats 4000000 in
set_option maxRecDepth 100000 in
theorem c_X0_lastYear (l : Launch) (g : va_G) (τ : Nat → ClassId) (ad : Nat → Nat) (R : Nat → Nat → Int) (hB : ∀ k j, -1 ≤ R k j ∧ R k j < 65536) (d mm : Nat) (hd : d < 10) (hm : mm ≤ 4) (hM : R 8 d = (mm : Int)) (sh : Int) (hsh : 0 ≤ sh ∧ sh < 65536) : Met l yX0_lastYear wsX0_lastYear { frames := 1, cells := 0, slots := 0, locals := 22 } (va_Pc [Value.ref (ad 4), Value.int (iI (d : Int)), Value.int (iI sh)] (roW g τ (dsW ad R τ))) (roQ (some (Value.int (iI (dLast R d sh mm))))) 0 0 nof := by
  refine roMet (cc := cX0_lastYear) (maxL := 5) (ret := (some .int)) (lv := [(0, Value.ref (ad 4)), (1, Value.int (iI (d : Int))), (2, Value.int (iI sh))]) (by decide) rfl (Nat.le_of_ble_eq_true rfl) rfl ?_
  intro p e s m below meth c hx hb hr hml hts hown hlocks hP hK ls hl
  refine lv_aload_n hx hb dX0_lastYear_0 rfl (lv_at hl 0 rfl) ?_
  refine va_get (D := g) (ci := 0) (v := Value.ref (ad 7)) (C := RX0) (T := TX0) (N := 6) hx hb hts in_X0_lastYear_X0 hown hK.1 hP 0 (rfl) rfl 3 (by decide) (hts _ (List.mem_of_getElem? (i := 1) rfl) : (Cond.fieldLink RX0 18 "CordSeals$Dies" "to" "[I").before _ s = true) (fun _ h9 => h9) rfl dX0_lastYear_1 ?_
  refine lv_iload_n hx hb dX0_lastYear_4 rfl (lv_at hl 1 rfl) ?_
  refine zi_ald hx hb hK hP 3 (f := (R 7)) (rfl) (d) (rfl) (by omega) (by decide) dX0_lastYear_5 ?_
  have hb_1 := hB 7 d
  refine lv_istore_n (lv' := [(3, Value.int (iI (R 7 d))), (0, Value.ref (ad 4)), (1, Value.int (iI (d : Int))), (2, Value.int (iI sh))]) hx hb dX0_lastYear_6 rfl hl (by decide) rfl (fun ls hl => ?_)
  refine lv_iconst (v := iI 0) hx hb dX0_lastYear_7 (by decide) ?_
  refine lv_istore (lv' := [(4, Value.int (iI 0)), (3, Value.int (iI (R 7 d))), (0, Value.ref (ad 4)), (1, Value.int (iI (d : Int))), (2, Value.int (iI sh))]) hx hb dX0_lastYear_8 hl (by decide) rfl (fun ls hl => ?_)
  have h0_2 : dLast R d sh 0 = R 7 d := by first | rfl | omega | (simp [dLast]; done)
  refine lp_up (fun i => [(4, Value.int (iI (i : Int))), (3, Value.int (iI (dLast R d sh i))), (0, Value.ref (ad 4)), (1, Value.int (iI (d : Int))), (2, Value.int (iI sh))]) (fun i => True) (mm) (0) (by omega) (by first | trivial | (intro j hj; omega)) (lv_eq (lv_sub hl [0, 1, 2, 3, 4] rfl) (by show [(4, Value.int (iI 0)), (3, Value.int (iI (dLast R d sh 0))), (0, Value.ref (ad 4)), (1, Value.int (iI (d : Int))), (2, Value.int (iI sh))] = [(4, Value.int (iI 0)), (3, Value.int (iI (R 7 d))), (0, Value.ref (ad 4)), (1, Value.int (iI (d : Int))), (2, Value.int (iI sh))]; rw [h0_2])) (fun i h0_i hi_i hI_i ih_10 ls hl => ?_)
  have hp := dLast_r R hB d sh
  refine lv_iload hx hb dX0_lastYear_10 (lv_at hl 0 rfl) ?_
  refine lv_aload_n hx hb dX0_lastYear_12 rfl (lv_at hl 2 rfl) ?_
  refine va_get (D := g) (ci := 0) (v := Value.ref (ad 8)) (C := RX0) (T := TX0) (N := 6) hx hb hts in_X0_lastYear_X0 hown hK.1 hP 0 (rfl) rfl 4 (by decide) (hts _ (List.mem_of_getElem? (i := 2) rfl) : (Cond.fieldLink RX0 21 "CordSeals$Dies" "cracks" "[I").before _ s = true) (fun _ h9 => h9) rfl dX0_lastYear_13 ?_
  refine lv_iload_n hx hb dX0_lastYear_16 rfl (lv_at hl 3 rfl) ?_
  refine zi_ald hx hb hK hP 4 (f := (R 8)) (rfl) (d) (rfl) (by omega) (by decide) dX0_lastYear_17 ?_
  have hb_3 := hB 8 d
  refine zi_icmp_ge (tgt := 48) hx hb ⟨by omega, by omega⟩ ⟨by omega, by omega⟩ dX0_lastYear_18 (by decide) (fun c_4 => ?_) (fun c_4 => ?_)
  · have _ := c_4
    have h0_i : i = mm := by omega
    refine lv_iload_n hx hb dX0_lastYear_48 rfl (lv_at hl 1 rfl) ?_
    exact zo_iret hx hb hr hlocks (by rw [h0_i]) dX0_lastYear_49
  · have _ := c_4
    have hl_i : i < mm := by omega
    refine lv_iload_n hx hb dX0_lastYear_21 rfl (lv_at hl 4 rfl) ?_
    refine lv_iload hx hb dX0_lastYear_22 (lv_at hl 0 rfl) ?_
    refine zi_bit (i) (rfl) (by omega) ⟨by omega, by omega⟩ hx hb dX0_lastYear_24 dX0_lastYear_25 dX0_lastYear_26 ?_
    refine zb_if_ne (tgt := 42) hx hb dX0_lastYear_27 (by decide) (fun c_5 => ?_) (fun c_5 => ?_)
    · have _ := c_5
      have hq := hp i
      have hq2 := hB 9 (d * 4 + i)
      refine zi_inc (v := ((i + 1 : Nat) : Int)) (lv' := [(4, Value.int (iI ((i + 1 : Nat) : Int))), (3, Value.int (iI (dLast R d sh i))), (0, Value.ref (ad 4)), (1, Value.int (iI (d : Int))), (2, Value.int (iI sh))]) hx hb dX0_lastYear_42 hl (k := 0) rfl (by omega) (by decide) rfl (fun ls hl => ?_)
      refine lv_goto (tgt := 10) hx hb dX0_lastYear_45 (by decide) ?_
      have hb_6 : (((i + 1) : Nat) : Int) = ((i + 1 : Nat) : Int) := by first | rfl | omega | (simp [dLast, c_4, c_5]; done)
      have hb_7 : dLast R d sh (i + 1) = dLast R d sh i := by first | rfl | omega | (simp [dLast, c_4, c_5]; done)
      exact ih_10 hl_i (trivial) _ (lv_eq (lv_sub hl [0, 1, 2, 3, 4] rfl) (by show [(4, Value.int (iI (((i + 1) : Nat) : Int))), (3, Value.int (iI (dLast R d sh (i + 1)))), (0, Value.ref (ad 4)), (1, Value.int (iI (d : Int))), (2, Value.int (iI sh))] = [(4, Value.int (iI ((i + 1 : Nat) : Int))), (3, Value.int (iI (dLast R d sh i))), (0, Value.ref (ad 4)), (1, Value.int (iI (d : Int))), (2, Value.int (iI sh))]; rw [hb_6, hb_7]))
    · have _ := c_5
      have hq := hp i
      have hq2 := hB 9 (d * 4 + i)
      refine lv_iload_n hx hb dX0_lastYear_30 rfl (lv_at hl 1 rfl) ?_
      refine lv_aload_n hx hb dX0_lastYear_31 rfl (lv_at hl 2 rfl) ?_
      refine lv_iload_n hx hb dX0_lastYear_32 rfl (lv_at hl 3 rfl) ?_
      refine lv_iload hx hb dX0_lastYear_33 (lv_at hl 0 rfl) ?_
      refine ro_V (As := [Value.int (iI (d : Int)), Value.int (iI (i : Int))]) (rest := [Value.int (iI (dLast R d sh i))]) (v := some (Value.int (iI (R 9 (d * 4 + i))))) ⟨hx, hb, hml, hown, hts⟩ (c_X0_yearOfCrack l g τ ad R hB d i (by omega) (by omega)) gX0_lastYear_X0_yearOfCrack cd_X0_yearOfCrack rfl rfl ⟨rfl, rfl⟩ ⟨Nat.le_of_ble_eq_true rfl, Nat.le_of_ble_eq_true rfl⟩ hK hP 0 rfl rfl rfl rfl hl rfl (Nat.le_of_ble_eq_true rfl) dX0_lastYear_35 ⟨Nat.le_of_ble_eq_true rfl, Nat.le_of_ble_eq_true rfl⟩ ?_
      refine tl_some ?_
      have hb_8 := hB 9 (d * 4 + i)
      refine zi_min hx hb (hml.trans hl.1.symm) ⟨by omega, by omega⟩ ⟨by omega, by omega⟩ hown (hts _ (List.mem_of_getElem? (i := 3) rfl) : (Cond.methodLink RX0 46 Lib.Math.min.name).before _ s = true) (hts _ (List.mem_of_getElem? (i := 4) rfl) : (Cond.static Lib.Math.min.name).before _ s = true) (hts _ (List.mem_of_getElem? (i := 5) rfl) : (Cond.initialized "java/lang/Math").before _ s = true) (hts _ (List.mem_of_getElem? (i := 6) rfl) : (Cond.code Lib.Math.min.name Lib.Math.min.code 2 (some .int)).before _ s = true) (Nat.le_of_ble_eq_true rfl) (Nat.le_of_ble_eq_true rfl) (Nat.le_of_ble_eq_true rfl) (Nat.le_of_ble_eq_true rfl) dX0_lastYear_38 ?_
      refine lv_istore_n (lv' := [(3, Value.int (iI (min (dLast R d sh i) (R 9 (d * 4 + i))))), (4, Value.int (iI (i : Int))), (0, Value.ref (ad 4)), (1, Value.int (iI (d : Int))), (2, Value.int (iI sh))]) hx hb dX0_lastYear_41 rfl hl (by decide) rfl (fun ls hl => ?_)
      refine zi_inc (v := ((i + 1 : Nat) : Int)) (lv' := [(4, Value.int (iI ((i + 1 : Nat) : Int))), (3, Value.int (iI (min (dLast R d sh i) (R 9 (d * 4 + i))))), (0, Value.ref (ad 4)), (1, Value.int (iI (d : Int))), (2, Value.int (iI sh))]) hx hb dX0_lastYear_42 hl (k := 1) rfl (by omega) (by decide) rfl (fun ls hl => ?_)
      refine lv_goto (tgt := 10) hx hb dX0_lastYear_45 (by decide) ?_
      have hb_9 : (((i + 1) : Nat) : Int) = ((i + 1 : Nat) : Int) := by first | rfl | omega | (simp [dLast, c_4, c_5]; done)
      have hb_10 : dLast R d sh (i + 1) = min (dLast R d sh i) (R 9 (d * 4 + i)) := by first | rfl | omega | (simp [dLast, c_4, c_5]; done)
      exact ih_10 hl_i (trivial) _ (lv_eq (lv_sub hl [0, 1, 2, 3, 4] rfl) (by show [(4, Value.int (iI (((i + 1) : Nat) : Int))), (3, Value.int (iI (dLast R d sh (i + 1)))), (0, Value.ref (ad 4)), (1, Value.int (iI (d : Int))), (2, Value.int (iI sh))] = [(4, Value.int (iI ((i + 1 : Nat) : Int))), (3, Value.int (iI (min (dLast R d sh i) (R 9 (d * 4 + i))))), (0, Value.ref (ad 4)), (1, Value.int (iI (d : Int))), (2, Value.int (iI sh))]; rw [hb_9, hb_10]))

theorem cd_X4_has : cd yX4_has 1 := by decide +kernel
theorem in_X4_has_X4 : ∀ w ∈ wsX40, w ∈ wsX4_has := by decide +kernel
set_option maxHeartbeats 4000000 in
set_option maxRecDepth 100000 in
theorem c_X4_has (l : Launch) (g : va_G) (τ : Nat → ClassId) (ad : Nat → Nat) (R : Nat → Nat → Int) (hB : ∀ k j, -1 ≤ R k j ∧ R k j < 65536) (d : Int) (rd : -2147483648 ≤ d ∧ d < 2147483648)  : Met l yX4_has wsX4_has { frames := 0, cells := 0, slots := 0, locals := 0 } (va_Pc [Value.ref (ad 10), Value.int (iI d)] (roW g τ (slW ad R τ))) (roQ (some (Value.int (iI (zB (dHas (R 10 0) d)))))) 0 0 nof := by
  refine roMet (cc := cX4_has) (maxL := 2) (ret := (some .boolean)) (lv := [(0, Value.ref (ad 10)), (1, Value.int (iI d))]) (by decide) rfl (Nat.le_of_ble_eq_true rfl) rfl ?_
  intro p e s m below meth c hx hb hr hml hts hown hlocks hP hK ls hl
  refine lv_iload_n hx hb dX4_has_0 rfl (lv_at hl 1 rfl) ?_
  refine zi_if_lt (tgt := 16) hx hb ⟨by omega, by omega⟩ dX4_has_1 (by decide) (fun c_1 => ?_) (fun c_1 => ?_)
  · have _ := c_1
    refine lv_iconst (v := iI 0) hx hb dX4_has_16 (by decide) ?_
    exact zo_zret hx hb hr hlocks (by simp [dHas, zB]; try omega) dX4_has_17
  · have _ := c_1
    refine lv_iload_n hx hb dX4_has_4 rfl (lv_at hl 1 rfl) ?_
    refine lv_aload_n hx hb dX4_has_5 rfl (lv_at hl 0 rfl) ?_
    refine va_get (D := g) (ci := 4) (v := Value.int (iI (R 10 0))) (C := RX4) (T := TX4) (N := 7) hx hb hts in_X4_has_X4 hown hK.1 hP 0 (rfl) rfl 0 (by decide) (hts _ (List.mem_of_getElem? (i := 1) rfl) : (Cond.fieldLink RX4 30 "CordSeals$Seals" "count" "I").before _ s = true) (fun _ h9 => h9) rfl dX4_has_6 ?_
    have hb_2 := hB 10 0
    refine zi_icmp_ge (tgt := 16) hx hb ⟨by omega, by omega⟩ ⟨by omega, by omega⟩ dX4_has_9 (by decide) (fun c_3 => ?_) (fun c_3 => ?_)
    · have _ := c_3
      refine lv_iconst (v := iI 0) hx hb dX4_has_16 (by decide) ?_
      exact zo_zret hx hb hr hlocks (by simp [dHas, zB]; try omega) dX4_has_17
    · have _ := c_3
      refine lv_iconst (v := iI 1) hx hb dX4_has_12 (by decide) ?_
      refine lv_goto (tgt := 17) hx hb dX4_has_13 (by decide) ?_
      exact zo_zret hx hb hr hlocks (by simp [dHas, zB]; try omega) dX4_has_17

theorem cd_X4_ofOneDie : cd yX4_ofOneDie 1 := by decide +kernel
theorem in_X4_ofOneDie_X4 : ∀ w ∈ wsX40, w ∈ wsX4_ofOneDie := by decide +kernel
set_option maxHeartbeats 4000000 in
set_option maxRecDepth 100000 in
theorem c_X4_ofOneDie (l : Launch) (g : va_G) (τ : Nat → ClassId) (ad : Nat → Nat) (R : Nat → Nat → Int) (hB : ∀ k j, -1 ≤ R k j ∧ R k j < 65536) (n : Nat) (hn : n ≤ 24) (hN : R 10 0 = (n : Int)) (d : Int) (rd : -2147483648 ≤ d ∧ d < 2147483648)  : Met l yX4_ofOneDie wsX4_ofOneDie { frames := 0, cells := 0, slots := 0, locals := 0 } (va_Pc [Value.ref (ad 10), Value.int (iI d)] (roW g τ (slW ad R τ))) (roQ (some (Value.int (iI (cnt (fun s => decide (R 11 s = d)) n))))) 0 0 nof := by
  refine roMet (cc := cX4_ofOneDie) (maxL := 4) (ret := (some .int)) (lv := [(0, Value.ref (ad 10)), (1, Value.int (iI d))]) (by decide) rfl (Nat.le_of_ble_eq_true rfl) rfl ?_
  intro p e s m below meth c hx hb hr hml hts hown hlocks hP hK ls hl
  refine lv_iconst (v := iI 0) hx hb dX4_ofOneDie_0 (by decide) ?_
  refine lv_istore_n (lv' := [(2, Value.int (iI 0)), (0, Value.ref (ad 10)), (1, Value.int (iI d))]) hx hb dX4_ofOneDie_1 rfl hl (by decide) rfl (fun ls hl => ?_)
  refine lv_iconst (v := iI 0) hx hb dX4_ofOneDie_2 (by decide) ?_
  refine lv_istore_n (lv' := [(3, Value.int (iI 0)), (2, Value.int (iI 0)), (0, Value.ref (ad 10)), (1, Value.int (iI d))]) hx hb dX4_ofOneDie_3 rfl hl (by decide) rfl (fun ls hl => ?_)
  have h0_1 : cnt (fun s => decide (R 11 s = d)) 0 = 0 := by first | rfl | omega | (simp [cnt]; done)
  refine lp_up (fun i => [(3, Value.int (iI (i : Int))), (2, Value.int (iI (cnt (fun s => decide (R 11 s = d)) i))), (0, Value.ref (ad 10)), (1, Value.int (iI d))]) (fun i => True) (n) (0) (by omega) (by first | trivial | (intro j hj; omega)) (lv_eq (lv_sub hl [0, 1, 2, 3] rfl) (by show [(3, Value.int (iI 0)), (2, Value.int (iI (cnt (fun s => decide (R 11 s = d)) 0))), (0, Value.ref (ad 10)), (1, Value.int (iI d))] = [(3, Value.int (iI 0)), (2, Value.int (iI 0)), (0, Value.ref (ad 10)), (1, Value.int (iI d))]; rw [h0_1])) (fun i h0_i hi_i hI_i ih_4 ls hl => ?_)
  refine lv_iload_n hx hb dX4_ofOneDie_4 rfl (lv_at hl 0 rfl) ?_
  refine lv_aload_n hx hb dX4_ofOneDie_5 rfl (lv_at hl 2 rfl) ?_
  refine va_get (D := g) (ci := 4) (v := Value.int (iI (R 10 0))) (C := RX4) (T := TX4) (N := 7) hx hb hts in_X4_ofOneDie_X4 hown hK.1 hP 0 (rfl) rfl 0 (by decide) (hts _ (List.mem_of_getElem? (i := 1) rfl) : (Cond.fieldLink RX4 30 "CordSeals$Seals" "count" "I").before _ s = true) (fun _ h9 => h9) rfl dX4_ofOneDie_6 ?_
  have hb_2 := hB 10 0
  refine zi_icmp_ge (tgt := 31) hx hb ⟨by omega, by omega⟩ ⟨by omega, by omega⟩ dX4_ofOneDie_9 (by decide) (fun c_3 => ?_) (fun c_3 => ?_)
  · have _ := c_3
    have h0_i : i = n := by omega
    refine lv_iload_n hx hb dX4_ofOneDie_31 rfl (lv_at hl 1 rfl) ?_
    exact zo_iret hx hb hr hlocks (by rw [h0_i]) dX4_ofOneDie_32
  · have _ := c_3
    have hl_i : i < n := by omega
    refine lv_aload_n hx hb dX4_ofOneDie_12 rfl (lv_at hl 2 rfl) ?_
    refine va_get (D := g) (ci := 4) (v := Value.ref (ad 11)) (C := RX4) (T := TX4) (N := 7) hx hb hts in_X4_ofOneDie_X4 hown hK.1 hP 0 (rfl) rfl 1 (by decide) (hts _ (List.mem_of_getElem? (i := 2) rfl) : (Cond.fieldLink RX4 9 "CordSeals$Seals" "die" "[I").before _ s = true) (fun _ h9 => h9) rfl dX4_ofOneDie_13 ?_
    refine lv_iload_n hx hb dX4_ofOneDie_16 rfl (lv_at hl 0 rfl) ?_
    refine zi_ald hx hb hK hP 1 (f := (R 11)) (rfl) (i) (rfl) (by omega) (by decide) dX4_ofOneDie_17 ?_
    have hb_4 := hB 11 i
    refine lv_iload_n hx hb dX4_ofOneDie_18 rfl (lv_at hl 3 rfl) ?_
    refine zi_icmp_ne (tgt := 25) hx hb ⟨by omega, by omega⟩ ⟨by omega, by omega⟩ dX4_ofOneDie_19 (by decide) (fun c_5 => ?_) (fun c_5 => ?_)
    · have _ := c_5
      refine zi_inc (v := ((i + 1 : Nat) : Int)) (lv' := [(3, Value.int (iI ((i + 1 : Nat) : Int))), (2, Value.int (iI (cnt (fun s => decide (R 11 s = d)) i))), (0, Value.ref (ad 10)), (1, Value.int (iI d))]) hx hb dX4_ofOneDie_25 hl (k := 0) rfl (by omega) (by decide) rfl (fun ls hl => ?_)
      refine lv_goto (tgt := 4) hx hb dX4_ofOneDie_28 (by decide) ?_
      have hb_6 : (((i + 1) : Nat) : Int) = ((i + 1 : Nat) : Int) := by first | rfl | omega | (simp [cnt, c_3, c_5]; done)
      have hb_7 : cnt (fun s => decide (R 11 s = d)) (i + 1) = cnt (fun s => decide (R 11 s = d)) i := by first | rfl | omega | (simp [cnt, c_3, c_5]; done)
      exact ih_4 hl_i (trivial) _ (lv_eq (lv_sub hl [0, 1, 2, 3] rfl) (by show [(3, Value.int (iI (((i + 1) : Nat) : Int))), (2, Value.int (iI (cnt (fun s => decide (R 11 s = d)) (i + 1)))), (0, Value.ref (ad 10)), (1, Value.int (iI d))] = [(3, Value.int (iI ((i + 1 : Nat) : Int))), (2, Value.int (iI (cnt (fun s => decide (R 11 s = d)) i))), (0, Value.ref (ad 10)), (1, Value.int (iI d))]; rw [hb_6, hb_7]))
    · have _ := c_5
      refine zi_inc (v := (cnt (fun s => decide (R 11 s = d)) i) + 1) (lv' := [(2, Value.int (iI ((cnt (fun s => decide (R 11 s = d)) i) + 1))), (3, Value.int (iI (i : Int))), (0, Value.ref (ad 10)), (1, Value.int (iI d))]) hx hb dX4_ofOneDie_22 hl (k := 1) rfl rfl (by decide) rfl (fun ls hl => ?_)
      refine zi_inc (v := ((i + 1 : Nat) : Int)) (lv' := [(3, Value.int (iI ((i + 1 : Nat) : Int))), (2, Value.int (iI ((cnt (fun s => decide (R 11 s = d)) i) + 1))), (0, Value.ref (ad 10)), (1, Value.int (iI d))]) hx hb dX4_ofOneDie_25 hl (k := 1) rfl (by omega) (by decide) rfl (fun ls hl => ?_)
      refine lv_goto (tgt := 4) hx hb dX4_ofOneDie_28 (by decide) ?_
      have hb_8 : (((i + 1) : Nat) : Int) = ((i + 1 : Nat) : Int) := by first | rfl | omega | (simp [cnt, c_3, c_5]; done)
      have hb_9 : cnt (fun s => decide (R 11 s = d)) (i + 1) = (cnt (fun s => decide (R 11 s = d)) i) + 1 := by first | rfl | omega | (simp [cnt, c_3, c_5]; done)
      exact ih_4 hl_i (trivial) _ (lv_eq (lv_sub hl [0, 1, 2, 3] rfl) (by show [(3, Value.int (iI (((i + 1) : Nat) : Int))), (2, Value.int (iI (cnt (fun s => decide (R 11 s = d)) (i + 1)))), (0, Value.ref (ad 10)), (1, Value.int (iI d))] = [(3, Value.int (iI ((i + 1 : Nat) : Int))), (2, Value.int (iI ((cnt (fun s => decide (R 11 s = d)) i) + 1))), (0, Value.ref (ad 10)), (1, Value.int (iI d))]; rw [hb_8, hb_9]))

theorem cd_X4_ofOneCharter : cd yX4_ofOneCharter 1 := by decide +kernel
theorem in_X4_ofOneCharter_X4 : ∀ w ∈ wsX40, w ∈ wsX4_ofOneCharter := by decide +kernel
set_option maxHeartbeats 4000000 in
set_option maxRecDepth 100000 in
theorem c_X4_ofOneCharter (l : Launch) (g : va_G) (τ : Nat → ClassId) (ad : Nat → Nat) (R : Nat → Nat → Int) (hB : ∀ k j, -1 ≤ R k j ∧ R k j < 65536) (n : Nat) (hn : n ≤ 24) (hN : R 10 0 = (n : Int)) (d : Int) (rd : -2147483648 ≤ d ∧ d < 2147483648)  : Met l yX4_ofOneCharter wsX4_ofOneCharter { frames := 0, cells := 0, slots := 0, locals := 0 } (va_Pc [Value.ref (ad 10), Value.int (iI d)] (roW g τ (slW ad R τ))) (roQ (some (Value.int (iI (cnt (fun s => decide (R 16 s = d)) n))))) 0 0 nof := by
  refine roMet (cc := cX4_ofOneCharter) (maxL := 4) (ret := (some .int)) (lv := [(0, Value.ref (ad 10)), (1, Value.int (iI d))]) (by decide) rfl (Nat.le_of_ble_eq_true rfl) rfl ?_
  intro p e s m below meth c hx hb hr hml hts hown hlocks hP hK ls hl
  refine lv_iconst (v := iI 0) hx hb dX4_ofOneCharter_0 (by decide) ?_
  refine lv_istore_n (lv' := [(2, Value.int (iI 0)), (0, Value.ref (ad 10)), (1, Value.int (iI d))]) hx hb dX4_ofOneCharter_1 rfl hl (by decide) rfl (fun ls hl => ?_)
  refine lv_iconst (v := iI 0) hx hb dX4_ofOneCharter_2 (by decide) ?_
  refine lv_istore_n (lv' := [(3, Value.int (iI 0)), (2, Value.int (iI 0)), (0, Value.ref (ad 10)), (1, Value.int (iI d))]) hx hb dX4_ofOneCharter_3 rfl hl (by decide) rfl (fun ls hl => ?_)
  have h0_1 : cnt (fun s => decide (R 16 s = d)) 0 = 0 := by first | rfl | omega | (simp [cnt]; done)
  refine lp_up (fun i => [(3, Value.int (iI (i : Int))), (2, Value.int (iI (cnt (fun s => decide (R 16 s = d)) i))), (0, Value.ref (ad 10)), (1, Value.int (iI d))]) (fun i => True) (n) (0) (by omega) (by first | trivial | (intro j hj; omega)) (lv_eq (lv_sub hl [0, 1, 2, 3] rfl) (by show [(3, Value.int (iI 0)), (2, Value.int (iI (cnt (fun s => decide (R 16 s = d)) 0))), (0, Value.ref (ad 10)), (1, Value.int (iI d))] = [(3, Value.int (iI 0)), (2, Value.int (iI 0)), (0, Value.ref (ad 10)), (1, Value.int (iI d))]; rw [h0_1])) (fun i h0_i hi_i hI_i ih_4 ls hl => ?_)
  refine lv_iload_n hx hb dX4_ofOneCharter_4 rfl (lv_at hl 0 rfl) ?_
  refine lv_aload_n hx hb dX4_ofOneCharter_5 rfl (lv_at hl 2 rfl) ?_
  refine va_get (D := g) (ci := 4) (v := Value.int (iI (R 10 0))) (C := RX4) (T := TX4) (N := 7) hx hb hts in_X4_ofOneCharter_X4 hown hK.1 hP 0 (rfl) rfl 0 (by decide) (hts _ (List.mem_of_getElem? (i := 1) rfl) : (Cond.fieldLink RX4 30 "CordSeals$Seals" "count" "I").before _ s = true) (fun _ h9 => h9) rfl dX4_ofOneCharter_6 ?_
  have hb_2 := hB 10 0
  refine zi_icmp_ge (tgt := 31) hx hb ⟨by omega, by omega⟩ ⟨by omega, by omega⟩ dX4_ofOneCharter_9 (by decide) (fun c_3 => ?_) (fun c_3 => ?_)
  · have _ := c_3
    have h0_i : i = n := by omega
    refine lv_iload_n hx hb dX4_ofOneCharter_31 rfl (lv_at hl 1 rfl) ?_
    exact zo_iret hx hb hr hlocks (by rw [h0_i]) dX4_ofOneCharter_32
  · have _ := c_3
    have hl_i : i < n := by omega
    refine lv_aload_n hx hb dX4_ofOneCharter_12 rfl (lv_at hl 2 rfl) ?_
    refine va_get (D := g) (ci := 4) (v := Value.ref (ad 16)) (C := RX4) (T := TX4) (N := 7) hx hb hts in_X4_ofOneCharter_X4 hown hK.1 hP 0 (rfl) rfl 6 (by decide) (hts _ (List.mem_of_getElem? (i := 2) rfl) : (Cond.fieldLink RX4 27 "CordSeals$Seals" "hangsOn" "[I").before _ s = true) (fun _ h9 => h9) rfl dX4_ofOneCharter_13 ?_
    refine lv_iload_n hx hb dX4_ofOneCharter_16 rfl (lv_at hl 0 rfl) ?_
    refine zi_ald hx hb hK hP 6 (f := (R 16)) (rfl) (i) (rfl) (by omega) (by decide) dX4_ofOneCharter_17 ?_
    have hb_4 := hB 16 i
    refine lv_iload_n hx hb dX4_ofOneCharter_18 rfl (lv_at hl 3 rfl) ?_
    refine zi_icmp_ne (tgt := 25) hx hb ⟨by omega, by omega⟩ ⟨by omega, by omega⟩ dX4_ofOneCharter_19 (by decide) (fun c_5 => ?_) (fun c_5 => ?_)
    · have _ := c_5
      refine zi_inc (v := ((i + 1 : Nat) : Int)) (lv' := [(3, Value.int (iI ((i + 1 : Nat) : Int))), (2, Value.int (iI (cnt (fun s => decide (R 16 s = d)) i))), (0, Value.ref (ad 10)), (1, Value.int (iI d))]) hx hb dX4_ofOneCharter_25 hl (k := 0) rfl (by omega) (by decide) rfl (fun ls hl => ?_)
      refine lv_goto (tgt := 4) hx hb dX4_ofOneCharter_28 (by decide) ?_
      have hb_6 : (((i + 1) : Nat) : Int) = ((i + 1 : Nat) : Int) := by first | rfl | omega | (simp [cnt, c_3, c_5]; done)
      have hb_7 : cnt (fun s => decide (R 16 s = d)) (i + 1) = cnt (fun s => decide (R 16 s = d)) i := by first | rfl | omega | (simp [cnt, c_3, c_5]; done)
      exact ih_4 hl_i (trivial) _ (lv_eq (lv_sub hl [0, 1, 2, 3] rfl) (by show [(3, Value.int (iI (((i + 1) : Nat) : Int))), (2, Value.int (iI (cnt (fun s => decide (R 16 s = d)) (i + 1)))), (0, Value.ref (ad 10)), (1, Value.int (iI d))] = [(3, Value.int (iI ((i + 1 : Nat) : Int))), (2, Value.int (iI (cnt (fun s => decide (R 16 s = d)) i))), (0, Value.ref (ad 10)), (1, Value.int (iI d))]; rw [hb_6, hb_7]))
    · have _ := c_5
      refine zi_inc (v := (cnt (fun s => decide (R 16 s = d)) i) + 1) (lv' := [(2, Value.int (iI ((cnt (fun s => decide (R 16 s = d)) i) + 1))), (3, Value.int (iI (i : Int))), (0, Value.ref (ad 10)), (1, Value.int (iI d))]) hx hb dX4_ofOneCharter_22 hl (k := 1) rfl rfl (by decide) rfl (fun ls hl => ?_)
      refine zi_inc (v := ((i + 1 : Nat) : Int)) (lv' := [(3, Value.int (iI ((i + 1 : Nat) : Int))), (2, Value.int (iI ((cnt (fun s => decide (R 16 s = d)) i) + 1))), (0, Value.ref (ad 10)), (1, Value.int (iI d))]) hx hb dX4_ofOneCharter_25 hl (k := 1) rfl (by omega) (by decide) rfl (fun ls hl => ?_)
      refine lv_goto (tgt := 4) hx hb dX4_ofOneCharter_28 (by decide) ?_
      have hb_8 : (((i + 1) : Nat) : Int) = ((i + 1 : Nat) : Int) := by first | rfl | omega | (simp [cnt, c_3, c_5]; done)
      have hb_9 : cnt (fun s => decide (R 16 s = d)) (i + 1) = (cnt (fun s => decide (R 16 s = d)) i) + 1 := by first | rfl | omega | (simp [cnt, c_3, c_5]; done)
      exact ih_4 hl_i (trivial) _ (lv_eq (lv_sub hl [0, 1, 2, 3] rfl) (by show [(3, Value.int (iI (((i + 1) : Nat) : Int))), (2, Value.int (iI (cnt (fun s => decide (R 16 s = d)) (i + 1)))), (0, Value.ref (ad 10)), (1, Value.int (iI d))] = [(3, Value.int (iI ((i + 1 : Nat) : Int))), (2, Value.int (iI ((cnt (fun s => decide (R 16 s = d)) i) + 1))), (0, Value.ref (ad 10)), (1, Value.int (iI d))]; rw [hb_8, hb_9]))

theorem cd_X4_hanging : cd yX4_hanging 0 := by decide +kernel
theorem in_X4_hanging_X4 : ∀ w ∈ wsX40, w ∈ wsX4_hanging := by decide +kernel
set_option maxHeartbeats 4000000 in
set_option maxRecDepth 100000 in
theorem c_X4_hanging (l : Launch) (g : va_G) (τ : Nat → ClassId) (ad : Nat → Nat) (R : Nat → Nat → Int) (hB : ∀ k j, -1 ≤ R k j ∧ R k j < 65536) (n : Nat) (hn : n ≤ 24) (hN : R 10 0 = (n : Int))  : Met l yX4_hanging wsX4_hanging { frames := 1, cells := 0, slots := 0, locals := 23 } (va_Pc [Value.ref (ad 10)] (roW g τ (slW ad R τ))) (roQ (some (Value.int (iI (R 10 0 - cnt (fun s => decide (R 16 s = (-1))) n))))) 0 0 nof := by
  refine roMet (cc := cX4_hanging) (maxL := 1) (ret := (some .int)) (lv := [(0, Value.ref (ad 10))]) (by decide) rfl (Nat.le_of_ble_eq_true rfl) rfl ?_
  intro p e s m below meth c hx hb hr hml hts hown hlocks hP hK ls hl
  refine lv_aload_n hx hb dX4_hanging_0 rfl (lv_at hl 0 rfl) ?_
  refine va_get (D := g) (ci := 4) (v := Value.int (iI (R 10 0))) (C := RX4) (T := TX4) (N := 7) hx hb hts in_X4_hanging_X4 hown hK.1 hP 0 (rfl) rfl 0 (by decide) (hts _ (List.mem_of_getElem? (i := 1) rfl) : (Cond.fieldLink RX4 30 "CordSeals$Seals" "count" "I").before _ s = true) (fun _ h9 => h9) rfl dX4_hanging_1 ?_
  have hb_1 := hB 10 0
  refine lv_aload_n hx hb dX4_hanging_4 rfl (lv_at hl 0 rfl) ?_
  refine lv_iconst (v := iI (-1)) hx hb dX4_hanging_5 (by decide) ?_
  refine ro_V (As := [Value.int (iI (-1))]) (rest := [Value.int (iI (R 10 0))]) (v := some (Value.int (iI (cnt (fun s => decide (R 16 s = (-1))) n)))) ⟨hx, hb, hml, hown, hts⟩ (c_X4_ofOneCharter l g τ ad R hB n hn hN (-1) ⟨by omega, by omega⟩) gX4_hanging_X4_ofOneCharter cd_X4_ofOneCharter rfl rfl ⟨rfl, rfl⟩ ⟨Nat.le_of_ble_eq_true rfl, Nat.le_of_ble_eq_true rfl⟩ hK hP 0 rfl rfl rfl rfl hl rfl (Nat.le_of_ble_eq_true rfl) dX4_hanging_6 ⟨Nat.le_of_ble_eq_true rfl, Nat.le_of_ble_eq_true rfl⟩ ?_
  refine tl_some ?_
  refine zi_sub hx hb dX4_hanging_9 ?_
  exact zo_iret hx hb hr hlocks (rfl) dX4_hanging_10

theorem cd_X4_haveBubbles : cd yX4_haveBubbles 2 := by decide +kernel
theorem in_X4_haveBubbles_X4 : ∀ w ∈ wsX40, w ∈ wsX4_haveBubbles := by decide +kernel
set_option maxHeartbeats 4000000 in
set_option maxRecDepth 100000 in
theorem c_X4_haveBubbles (l : Launch) (g : va_G) (τ : Nat → ClassId) (ad : Nat → Nat) (R : Nat → Nat → Int) (hB : ∀ k j, -1 ≤ R k j ∧ R k j < 65536) (n : Nat) (hn : n ≤ 24) (hN : R 10 0 = (n : Int)) (q : Int) (rq : -2147483648 ≤ q ∧ q < 2147483648) (z : Int) (rz : -2147483648 ≤ z ∧ z < 2147483648)  : Met l yX4_haveBubbles wsX4_haveBubbles { frames := 0, cells := 0, slots := 0, locals := 0 } (va_Pc [Value.ref (ad 10), Value.int (iI q), Value.int (iI z)] (roW g τ (slW ad R τ))) (roQ (some (Value.int (iI (zB (anyB (fun s => decide (R 12 s = q) && decide (R 14 s = z)) n)))))) 0 0 nof := by
  refine roMet (cc := cX4_haveBubbles) (maxL := 4) (ret := (some .boolean)) (lv := [(0, Value.ref (ad 10)), (1, Value.int (iI q)), (2, Value.int (iI z))]) (by decide) rfl (Nat.le_of_ble_eq_true rfl) rfl ?_
  intro p e s m below meth c hx hb hr hml hts hown hlocks hP hK ls hl
  refine lv_iconst (v := iI 0) hx hb dX4_haveBubbles_0 (by decide) ?_
  refine lv_istore_n (lv' := [(3, Value.int (iI 0)), (0, Value.ref (ad 10)), (1, Value.int (iI q)), (2, Value.int (iI z))]) hx hb dX4_haveBubbles_1 rfl hl (by decide) rfl (fun ls hl => ?_)
  refine lp_up (fun i => [(3, Value.int (iI (i : Int))), (0, Value.ref (ad 10)), (1, Value.int (iI q)), (2, Value.int (iI z))]) (fun i => ∀ j, j < i → (decide (R 12 j = q) && decide (R 14 j = z)) = false) (n) (0) (by omega) (by first | trivial | (intro j hj; omega)) (lv_eq (lv_sub hl [0, 1, 2, 3] rfl) (by show [(3, Value.int (iI 0)), (0, Value.ref (ad 10)), (1, Value.int (iI q)), (2, Value.int (iI z))] = [(3, Value.int (iI 0)), (0, Value.ref (ad 10)), (1, Value.int (iI q)), (2, Value.int (iI z))]; rfl)) (fun i h0_i hi_i hI_i ih_2 ls hl => ?_)
  refine lv_iload_n hx hb dX4_haveBubbles_2 rfl (lv_at hl 0 rfl) ?_
  refine lv_aload_n hx hb dX4_haveBubbles_3 rfl (lv_at hl 1 rfl) ?_
  refine va_get (D := g) (ci := 4) (v := Value.int (iI (R 10 0))) (C := RX4) (T := TX4) (N := 7) hx hb hts in_X4_haveBubbles_X4 hown hK.1 hP 0 (rfl) rfl 0 (by decide) (hts _ (List.mem_of_getElem? (i := 1) rfl) : (Cond.fieldLink RX4 30 "CordSeals$Seals" "count" "I").before _ s = true) (fun _ h9 => h9) rfl dX4_haveBubbles_4 ?_
  have hb_1 := hB 10 0
  refine zi_icmp_ge (tgt := 38) hx hb ⟨by omega, by omega⟩ ⟨by omega, by omega⟩ dX4_haveBubbles_7 (by decide) (fun c_2 => ?_) (fun c_2 => ?_)
  · have _ := c_2
    have h0_i : i = n := by omega
    refine lv_iconst (v := iI 0) hx hb dX4_haveBubbles_38 (by decide) ?_
    exact zo_zret hx hb hr hlocks (by rw [← h0_i, anyB_f hI_i]; rfl) dX4_haveBubbles_39
  · have _ := c_2
    have hl_i : i < n := by omega
    refine lv_aload_n hx hb dX4_haveBubbles_10 rfl (lv_at hl 1 rfl) ?_
    refine va_get (D := g) (ci := 4) (v := Value.ref (ad 12)) (C := RX4) (T := TX4) (N := 7) hx hb hts in_X4_haveBubbles_X4 hown hK.1 hP 0 (rfl) rfl 2 (by decide) (hts _ (List.mem_of_getElem? (i := 2) rfl) : (Cond.fieldLink RX4 15 "CordSeals$Seals" "material" "[I").before _ s = true) (fun _ h9 => h9) rfl dX4_haveBubbles_11 ?_
    refine lv_iload_n hx hb dX4_haveBubbles_14 rfl (lv_at hl 0 rfl) ?_
    refine zi_ald hx hb hK hP 2 (f := (R 12)) (rfl) (i) (rfl) (by omega) (by decide) dX4_haveBubbles_15 ?_
    have hb_3 := hB 12 i
    refine lv_iload_n hx hb dX4_haveBubbles_16 rfl (lv_at hl 2 rfl) ?_
    refine zi_icmp_ne (tgt := 32) hx hb ⟨by omega, by omega⟩ ⟨by omega, by omega⟩ dX4_haveBubbles_17 (by decide) (fun c_4 => ?_) (fun c_4 => ?_)
    · have _ := c_4
      refine zi_inc (v := ((i + 1 : Nat) : Int)) (lv' := [(3, Value.int (iI ((i + 1 : Nat) : Int))), (0, Value.ref (ad 10)), (1, Value.int (iI q)), (2, Value.int (iI z))]) hx hb dX4_haveBubbles_32 hl (k := 0) rfl (by omega) (by decide) rfl (fun ls hl => ?_)
      refine lv_goto (tgt := 2) hx hb dX4_haveBubbles_35 (by decide) ?_
      have hb_5 : (((i + 1) : Nat) : Int) = ((i + 1 : Nat) : Int) := by first | rfl | omega | (simp [c_2, c_4]; done)
      exact ih_2 hl_i (lt_step hI_i (by simp [c_4]; try omega)) _ (lv_eq (lv_sub hl [0, 1, 2, 3] rfl) (by show [(3, Value.int (iI (((i + 1) : Nat) : Int))), (0, Value.ref (ad 10)), (1, Value.int (iI q)), (2, Value.int (iI z))] = [(3, Value.int (iI ((i + 1 : Nat) : Int))), (0, Value.ref (ad 10)), (1, Value.int (iI q)), (2, Value.int (iI z))]; rw [hb_5]))
    · have _ := c_4
      refine lv_aload_n hx hb dX4_haveBubbles_20 rfl (lv_at hl 1 rfl) ?_
      refine va_get (D := g) (ci := 4) (v := Value.ref (ad 14)) (C := RX4) (T := TX4) (N := 7) hx hb hts in_X4_haveBubbles_X4 hown hK.1 hP 0 (rfl) rfl 4 (by decide) (hts _ (List.mem_of_getElem? (i := 3) rfl) : (Cond.fieldLink RX4 21 "CordSeals$Seals" "bubbles" "[I").before _ s = true) (fun _ h9 => h9) rfl dX4_haveBubbles_21 ?_
      refine lv_iload_n hx hb dX4_haveBubbles_24 rfl (lv_at hl 0 rfl) ?_
      refine zi_ald hx hb hK hP 4 (f := (R 14)) (rfl) (i) (rfl) (by omega) (by decide) dX4_haveBubbles_25 ?_
      have hb_6 := hB 14 i
      refine lv_iload_n hx hb dX4_haveBubbles_26 rfl (lv_at hl 3 rfl) ?_
      refine zi_icmp_ne (tgt := 32) hx hb ⟨by omega, by omega⟩ ⟨by omega, by omega⟩ dX4_haveBubbles_27 (by decide) (fun c_7 => ?_) (fun c_7 => ?_)
      · have _ := c_7
        refine zi_inc (v := ((i + 1 : Nat) : Int)) (lv' := [(3, Value.int (iI ((i + 1 : Nat) : Int))), (0, Value.ref (ad 10)), (1, Value.int (iI q)), (2, Value.int (iI z))]) hx hb dX4_haveBubbles_32 hl (k := 0) rfl (by omega) (by decide) rfl (fun ls hl => ?_)
        refine lv_goto (tgt := 2) hx hb dX4_haveBubbles_35 (by decide) ?_
        have hb_8 : (((i + 1) : Nat) : Int) = ((i + 1 : Nat) : Int) := by first | rfl | omega | (simp [c_2, c_4, c_7]; done)
        exact ih_2 hl_i (lt_step hI_i (by simp [c_7]; try omega)) _ (lv_eq (lv_sub hl [0, 1, 2, 3] rfl) (by show [(3, Value.int (iI (((i + 1) : Nat) : Int))), (0, Value.ref (ad 10)), (1, Value.int (iI q)), (2, Value.int (iI z))] = [(3, Value.int (iI ((i + 1 : Nat) : Int))), (0, Value.ref (ad 10)), (1, Value.int (iI q)), (2, Value.int (iI z))]; rw [hb_8]))
      · have _ := c_7
        refine lv_iconst (v := iI 1) hx hb dX4_haveBubbles_30 (by decide) ?_
        exact zo_zret hx hb hr hlocks (by rw [anyB_t (i := i) (by simp [c_2, c_4, c_7]) hl_i]; rfl) dX4_haveBubbles_31
