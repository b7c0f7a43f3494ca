theorem kFirst_r (R : Nat → Nat → Int) (hB : ∀ k j, -1 ≤ R k j ∧ R k j < 65536) (i : Nat) : -1 ≤ kFirst R i ∧ kFirst R i < 65536 := by
  unfold kFirst
  split
  · omega
  · exact hB 2 _
theorem kLast_r (R : Nat → Nat → Int) (hB : ∀ k j, -1 ≤ R k j ∧ R k j < 65536) (n i : Nat) : -2 ≤ kLast R n i ∧ kLast R n i < 65536 := by
  have := hB 2 i
  unfold kLast
  split <;> omega
theorem yCount_f {R : Nat → Nat → Int} {n i : Nat} {lo hi sp : Int} (h : yOk R n lo hi sp i = false) : yCount R n lo hi sp (i + 1) = yCount R n lo hi sp i := by
  unfold yCount
  rw [sumZ, h]
  simp
theorem yCount_t {R : Nat → Nat → Int} {n i : Nat} {lo hi sp : Int} (h : yOk R n lo hi sp i = true) : yCount R n lo hi sp (i + 1) = yCount R n lo hi sp i + (min hi (kLast R n i) - max lo (kFirst R i) + 1) := by
  unfold yCount
  rw [sumZ, h]
  rfl

theorem cd_X8_hasSpan : cd yX8_hasSpan 1 := by decide +kernel
theorem in_X8_hasSpan_X8 : ∀ w ∈ wsX80, w ∈ wsX8_hasSpan := by decide +kernel
set_option maxHeartbeats 1000000 in
set_option maxRecDepth 100000 in
theorem c_X8_hasSpan (l : Launch) (g : va_G) (τ : Nat → ClassId) (a : Nat) (lo hi sp : Int) (hlo : -1 ≤ lo ∧ lo < 65536) (hhi : -1 ≤ hi ∧ hi < 65536) (hsp : 0 ≤ sp ∧ sp < 65536) (i : Nat) (hi1 : i ≤ 10) : Met l yX8_hasSpan wsX8_hasSpan { frames := 0, cells := 0, slots := 0, locals := 0 } (va_Pc [Value.ref a, Value.int (iI (i : Int))] (roW g τ ([yC a lo hi sp]))) (roQ (some (Value.int (iI (zB (zbit sp i)))))) 0 0 nof := by
  refine roMet (cc := cX8_hasSpan) (maxL := 2) (ret := (some .boolean)) (lv := [(0, Value.ref a), (1, Value.int (iI (i : Int)))]) (by decide) rfl (Nat.le_of_ble_eq_true rfl) rfl ?_
  intro p e s m below meth c hx hb hr hml hts hown hlocks hP hK ls hl
  refine lv_aload_n hx hb dX8_hasSpan_0 rfl (lv_at hl 0 rfl) ?_
  refine va_get (D := g) (ci := 8) (v := Value.int (iI sp)) (C := RX8) (T := TX8) (N := 3) hx hb hts in_X8_hasSpan_X8 hown hK.1 hP 0 (rfl) rfl 2 (by decide) (hts _ (List.mem_of_getElem? (i := 1) rfl) : (Cond.fieldLink RX8 18 "CordSeals$Years" "spans" "I").before _ s = true) (fun _ h9 => h9) rfl dX8_hasSpan_1 ?_
  refine lv_iload_n hx hb dX8_hasSpan_4 rfl (lv_at hl 1 rfl) ?_
  refine zi_bit (i) (rfl) (by omega) ⟨by omega, by omega⟩ hx hb dX8_hasSpan_5 dX8_hasSpan_6 dX8_hasSpan_7 ?_
  refine zb_if_eq (tgt := 15) hx hb dX8_hasSpan_8 (by decide) (fun c_1 => ?_) (fun c_1 => ?_)
  · have _ := c_1
    refine lv_iconst (v := iI 0) hx hb dX8_hasSpan_15 (by decide) ?_
    exact zo_zret hx hb hr hlocks (by first | (rw [c_1]; rfl) | (simp only [c_1]; rfl)) dX8_hasSpan_16
  · have _ := c_1
    refine lv_iconst (v := iI 1) hx hb dX8_hasSpan_11 (by decide) ?_
    refine lv_goto (tgt := 16) hx hb dX8_hasSpan_12 (by decide) ?_
    exact zo_zret hx hb hr hlocks (by first | (rw [c_1]; rfl) | (simp only [c_1]; rfl)) dX8_hasSpan_16

theorem cd_X8_start : cd yX8_start 3 := by decide +kernel
theorem in_X8_start_X8 : ∀ w ∈ wsX80, w ∈ wsX8_start := by decide +kernel
set_option maxHeartbeats 1000000 in
set_option maxRecDepth 100000 in
theorem c_X8_start (l : Launch) (g : va_G) (τ : Nat → ClassId) (a : Nat) (lo hi sp l2 h2 s2 : Int)  : Met l yX8_start wsX8_start { frames := 0, cells := 0, slots := 0, locals := 0 } (va_Pc [Value.ref a, Value.int (iI l2), Value.int (iI h2), Value.int (iI s2)] (rwW g τ ([yC a lo hi sp]))) (rwQ g (fun v w => v = none ∧ w = [yC a l2 h2 s2]) (inW ([yC a lo hi sp]))) 0 0 (inW ([yC a lo hi sp])) := by
  refine rwMet (cc := cX8_start) (maxL := 4) (ret := none) (lv := [(0, Value.ref a), (1, Value.int (iI l2)), (2, Value.int (iI h2)), (3, Value.int (iI s2))]) (by decide) rfl (Nat.le_of_ble_eq_true rfl) rfl ?_
  intro p e s m below meth c hx hb hr hml hts hown hlocks A H hP hD hS hK ls hl
  refine lv_aload_n hx hb dX8_start_0 rfl (lv_at hl 0 rfl) ?_
  refine lv_iload_n hx hb dX8_start_1 rfl (lv_at hl 1 rfl) ?_
  refine va_put (D := g) (ci := 8) (v := Value.int (iI l2)) (ty := .int) (C := RX8) (T := TX8) (N := 3) hx hb hts in_X8_start_X8 tyX8 tyX8_ok nmX8 hown hK.1 hP hD hS 0 (rfl) rfl 0 (by decide) (hts _ (List.mem_of_getElem? (i := 1) rfl) : (Cond.fieldLink RX8 9 "CordSeals$Years" "low" "I").before _ s = true) (fun _ h9 => h9) rfl (by decide +kernel) rfl rfl (Nat.le_of_ble_eq_true rfl) dX8_start_2 (fun H locs hP hD hS => ?_)
  have hP : va_P g vwCl ([yC a l2 hi sp]) H := hP
  have hD : va_D A ([yC a l2 hi sp]) := hD
  refine lv_aload_n hx hb dX8_start_5 rfl (lv_at hl 0 rfl) ?_
  refine lv_iload_n hx hb dX8_start_6 rfl (lv_at hl 2 rfl) ?_
  refine va_put (D := g) (ci := 8) (v := Value.int (iI h2)) (ty := .int) (C := RX8) (T := TX8) (N := 3) hx hb hts in_X8_start_X8 tyX8 tyX8_ok nmX8 hown hK.1 hP hD hS 0 (rfl) rfl 1 (by decide) (hts _ (List.mem_of_getElem? (i := 2) rfl) : (Cond.fieldLink RX8 15 "CordSeals$Years" "high" "I").before _ s = true) (fun _ h9 => h9) rfl (by decide +kernel) rfl rfl (Nat.le_of_ble_eq_true rfl) dX8_start_7 (fun H locs hP hD hS => ?_)
  have hP : va_P g vwCl ([yC a l2 h2 sp]) H := hP
  have hD : va_D A ([yC a l2 h2 sp]) := hD
  refine lv_aload_n hx hb dX8_start_10 rfl (lv_at hl 0 rfl) ?_
  refine lv_iload_n hx hb dX8_start_11 rfl (lv_at hl 3 rfl) ?_
  refine va_put (D := g) (ci := 8) (v := Value.int (iI s2)) (ty := .int) (C := RX8) (T := TX8) (N := 3) hx hb hts in_X8_start_X8 tyX8 tyX8_ok nmX8 hown hK.1 hP hD hS 0 (rfl) rfl 2 (by decide) (hts _ (List.mem_of_getElem? (i := 3) rfl) : (Cond.fieldLink RX8 18 "CordSeals$Years" "spans" "I").before _ s = true) (fun _ h9 => h9) rfl (by decide +kernel) rfl rfl (Nat.le_of_ble_eq_true rfl) dX8_start_12 (fun H locs hP hD hS => ?_)
  have hP : va_P g vwCl ([yC a l2 h2 s2]) H := hP
  have hD : va_D A ([yC a l2 h2 s2]) := hD
  exact rw_vret hx hb hr hlocks hP hS (⟨rfl, rfl⟩) dX8_start_15

theorem cd_X8_copy : cd yX8_copy 1 := by decide +kernel
theorem in_X8_copy_X8 : ∀ w ∈ wsX80, w ∈ wsX8_copy := by decide +kernel
set_option maxHeartbeats 1000000 in
set_option maxRecDepth 100000 in
theorem c_X8_copy (l : Launch) (g : va_G) (τ : Nat → ClassId) (a b : Nat) (lo hi sp l2 h2 s2 : Int)  : Met l yX8_copy wsX8_copy { frames := 0, cells := 0, slots := 0, locals := 0 } (va_Pc [Value.ref a, Value.ref b] (rwW g τ ([yC a lo hi sp] ++ [yC b l2 h2 s2]))) (rwQ g (fun v w => v = none ∧ w = [yC a l2 h2 s2] ++ [yC b l2 h2 s2]) (inW ([yC a lo hi sp] ++ [yC b l2 h2 s2]))) 0 0 (inW ([yC a lo hi sp] ++ [yC b l2 h2 s2])) := by
  refine rwMet (cc := cX8_copy) (maxL := 2) (ret := none) (lv := [(0, Value.ref a), (1, Value.ref b)]) (by decide) rfl (Nat.le_of_ble_eq_true rfl) rfl ?_
  intro p e s m below meth c hx hb hr hml hts hown hlocks A H hP hD hS hK ls hl
  refine lv_aload_n hx hb dX8_copy_0 rfl (lv_at hl 0 rfl) ?_
  refine lv_aload_n hx hb dX8_copy_1 rfl (lv_at hl 1 rfl) ?_
  refine va_get (D := g) (ci := 8) (v := Value.int (iI l2)) (C := RX8) (T := TX8) (N := 3) hx hb hts in_X8_copy_X8 hown hK.1 hP 1 (rfl) rfl 0 (by decide) (hts _ (List.mem_of_getElem? (i := 1) rfl) : (Cond.fieldLink RX8 9 "CordSeals$Years" "low" "I").before _ s = true) (fun _ h9 => h9) rfl dX8_copy_2 ?_
  refine va_put (D := g) (ci := 8) (v := Value.int (iI l2)) (ty := .int) (C := RX8) (T := TX8) (N := 3) hx hb hts in_X8_copy_X8 tyX8 tyX8_ok nmX8 hown hK.1 hP hD hS 0 (rfl) rfl 0 (by decide) (hts _ (List.mem_of_getElem? (i := 1) rfl) : (Cond.fieldLink RX8 9 "CordSeals$Years" "low" "I").before _ s = true) (fun _ h9 => h9) rfl (by decide +kernel) rfl rfl (Nat.le_of_ble_eq_true rfl) dX8_copy_5 (fun H locs hP hD hS => ?_)
  have hP : va_P g vwCl ([yC a l2 hi sp] ++ [yC b l2 h2 s2]) H := hP
  have hD : va_D A ([yC a l2 hi sp] ++ [yC b l2 h2 s2]) := hD
  refine lv_aload_n hx hb dX8_copy_8 rfl (lv_at hl 0 rfl) ?_
  refine lv_aload_n hx hb dX8_copy_9 rfl (lv_at hl 1 rfl) ?_
  refine va_get (D := g) (ci := 8) (v := Value.int (iI h2)) (C := RX8) (T := TX8) (N := 3) hx hb hts in_X8_copy_X8 hown hK.1 hP 1 (rfl) rfl 1 (by decide) (hts _ (List.mem_of_getElem? (i := 2) rfl) : (Cond.fieldLink RX8 15 "CordSeals$Years" "high" "I").before _ s = true) (fun _ h9 => h9) rfl dX8_copy_10 ?_
  refine va_put (D := g) (ci := 8) (v := Value.int (iI h2)) (ty := .int) (C := RX8) (T := TX8) (N := 3) hx hb hts in_X8_copy_X8 tyX8 tyX8_ok nmX8 hown hK.1 hP hD hS 0 (rfl) rfl 1 (by decide) (hts _ (List.mem_of_getElem? (i := 2) rfl) : (Cond.fieldLink RX8 15 "CordSeals$Years" "high" "I").before _ s = true) (fun _ h9 => h9) rfl (by decide +kernel) rfl rfl (Nat.le_of_ble_eq_true rfl) dX8_copy_13 (fun H locs hP hD hS => ?_)
  have hP : va_P g vwCl ([yC a l2 h2 sp] ++ [yC b l2 h2 s2]) H := hP
  have hD : va_D A ([yC a l2 h2 sp] ++ [yC b l2 h2 s2]) := hD
  refine lv_aload_n hx hb dX8_copy_16 rfl (lv_at hl 0 rfl) ?_
  refine lv_aload_n hx hb dX8_copy_17 rfl (lv_at hl 1 rfl) ?_
  refine va_get (D := g) (ci := 8) (v := Value.int (iI s2)) (C := RX8) (T := TX8) (N := 3) hx hb hts in_X8_copy_X8 hown hK.1 hP 1 (rfl) rfl 2 (by decide) (hts _ (List.mem_of_getElem? (i := 3) rfl) : (Cond.fieldLink RX8 18 "CordSeals$Years" "spans" "I").before _ s = true) (fun _ h9 => h9) rfl dX8_copy_18 ?_
  refine va_put (D := g) (ci := 8) (v := Value.int (iI s2)) (ty := .int) (C := RX8) (T := TX8) (N := 3) hx hb hts in_X8_copy_X8 tyX8 tyX8_ok nmX8 hown hK.1 hP hD hS 0 (rfl) rfl 2 (by decide) (hts _ (List.mem_of_getElem? (i := 3) rfl) : (Cond.fieldLink RX8 18 "CordSeals$Years" "spans" "I").before _ s = true) (fun _ h9 => h9) rfl (by decide +kernel) rfl rfl (Nat.le_of_ble_eq_true rfl) dX8_copy_21 (fun H locs hP hD hS => ?_)
  have hP : va_P g vwCl ([yC a l2 h2 s2] ++ [yC b l2 h2 s2]) H := hP
  have hD : va_D A ([yC a l2 h2 s2] ++ [yC b l2 h2 s2]) := hD
  exact rw_vret hx hb hr hlocks hP hS (⟨rfl, rfl⟩) dX8_copy_24

theorem cd_X8_narrow : cd yX8_narrow 1 := by decide +kernel
theorem in_X8_narrow_X8 : ∀ w ∈ wsX80, w ∈ wsX8_narrow := by decide +kernel
set_option maxHeartbeats 1000000 in
set_option maxRecDepth 100000 in
theorem c_X8_narrow (l : Launch) (g : va_G) (τ : Nat → ClassId) (a b : Nat) (lo hi sp l2 h2 s2 : Int) (hlo : -1 ≤ lo ∧ lo < 65536) (hhi : -1 ≤ hi ∧ hi < 65536) (hsp : 0 ≤ sp ∧ sp < 65536) (hl2 : -1 ≤ l2 ∧ l2 < 65536) (hh2 : -1 ≤ h2 ∧ h2 < 65536) (hs2 : 0 ≤ s2 ∧ s2 < 65536)  : Met l yX8_narrow wsX8_narrow { frames := 1, cells := 0, slots := 0, locals := 16 } (va_Pc [Value.ref a, Value.ref b] (rwW g τ ([yC a lo hi sp] ++ [yC b l2 h2 s2]))) (rwQ g (fun v w => v = none ∧ w = [yC a (max lo l2) (min hi h2) (zand sp s2)] ++ [yC b l2 h2 s2]) (inW ([yC a lo hi sp] ++ [yC b l2 h2 s2]))) 0 0 (inW ([yC a lo hi sp] ++ [yC b l2 h2 s2])) := by
  refine rwMet (cc := cX8_narrow) (maxL := 2) (ret := none) (lv := [(0, Value.ref a), (1, Value.ref b)]) (by decide) rfl (Nat.le_of_ble_eq_true rfl) rfl ?_
  intro p e s m below meth c hx hb hr hml hts hown hlocks A H hP hD hS hK ls hl
  refine lv_aload_n hx hb dX8_narrow_0 rfl (lv_at hl 0 rfl) ?_
  refine lv_aload_n hx hb dX8_narrow_1 rfl (lv_at hl 0 rfl) ?_
  refine va_get (D := g) (ci := 8) (v := Value.int (iI lo)) (C := RX8) (T := TX8) (N := 3) hx hb hts in_X8_narrow_X8 hown hK.1 hP 0 (rfl) rfl 0 (by decide) (hts _ (List.mem_of_getElem? (i := 1) rfl) : (Cond.fieldLink RX8 9 "CordSeals$Years" "low" "I").before _ s = true) (fun _ h9 => h9) rfl dX8_narrow_2 ?_
  refine lv_aload_n hx hb dX8_narrow_5 rfl (lv_at hl 1 rfl) ?_
  refine va_get (D := g) (ci := 8) (v := Value.int (iI l2)) (C := RX8) (T := TX8) (N := 3) hx hb hts in_X8_narrow_X8 hown hK.1 hP 1 (rfl) rfl 0 (by decide) (hts _ (List.mem_of_getElem? (i := 1) rfl) : (Cond.fieldLink RX8 9 "CordSeals$Years" "low" "I").before _ s = true) (fun _ h9 => h9) rfl dX8_narrow_6 ?_
  refine zi_max hx hb (hml.trans hl.1.symm) ⟨by omega, by omega⟩ ⟨by omega, by omega⟩ hown (hts _ (List.mem_of_getElem? (i := 2) rfl) : (Cond.methodLink RX8 21 Lib.Math.max.name).before _ s = true) (hts _ (List.mem_of_getElem? (i := 3) rfl) : (Cond.static Lib.Math.max.name).before _ s = true) (hts _ (List.mem_of_getElem? (i := 4) rfl) : (Cond.initialized "java/lang/Math").before _ s = true) (hts _ (List.mem_of_getElem? (i := 5) rfl) : (Cond.code Lib.Math.max.name Lib.Math.max.code 2 (some .int)).before _ s = true) (Nat.le_of_ble_eq_true rfl) (Nat.le_of_ble_eq_true rfl) (Nat.le_of_ble_eq_true rfl) (Nat.le_of_ble_eq_true rfl) dX8_narrow_9 ?_
  refine va_put (D := g) (ci := 8) (v := Value.int (iI (max lo l2))) (ty := .int) (C := RX8) (T := TX8) (N := 3) hx hb hts in_X8_narrow_X8 tyX8 tyX8_ok nmX8 hown hK.1 hP hD hS 0 (rfl) rfl 0 (by decide) (hts _ (List.mem_of_getElem? (i := 1) rfl) : (Cond.fieldLink RX8 9 "CordSeals$Years" "low" "I").before _ s = true) (fun _ h9 => h9) rfl (by decide +kernel) rfl rfl (Nat.le_of_ble_eq_true rfl) dX8_narrow_12 (fun H locs hP hD hS => ?_)
  have hP : va_P g vwCl ([yC a (max lo l2) hi sp] ++ [yC b l2 h2 s2]) H := hP
  have hD : va_D A ([yC a (max lo l2) hi sp] ++ [yC b l2 h2 s2]) := hD
  refine lv_aload_n hx hb dX8_narrow_15 rfl (lv_at hl 0 rfl) ?_
  refine lv_aload_n hx hb dX8_narrow_16 rfl (lv_at hl 0 rfl) ?_
  refine va_get (D := g) (ci := 8) (v := Value.int (iI hi)) (C := RX8) (T := TX8) (N := 3) hx hb hts in_X8_narrow_X8 hown hK.1 hP 0 (rfl) rfl 1 (by decide) (hts _ (List.mem_of_getElem? (i := 6) rfl) : (Cond.fieldLink RX8 15 "CordSeals$Years" "high" "I").before _ s = true) (fun _ h9 => h9) rfl dX8_narrow_17 ?_
  refine lv_aload_n hx hb dX8_narrow_20 rfl (lv_at hl 1 rfl) ?_
  refine va_get (D := g) (ci := 8) (v := Value.int (iI h2)) (C := RX8) (T := TX8) (N := 3) hx hb hts in_X8_narrow_X8 hown hK.1 hP 1 (rfl) rfl 1 (by decide) (hts _ (List.mem_of_getElem? (i := 6) rfl) : (Cond.fieldLink RX8 15 "CordSeals$Years" "high" "I").before _ s = true) (fun _ h9 => h9) rfl dX8_narrow_21 ?_
  refine zi_min hx hb (hml.trans hl.1.symm) ⟨by omega, by omega⟩ ⟨by omega, by omega⟩ hown (hts _ (List.mem_of_getElem? (i := 7) rfl) : (Cond.methodLink RX8 27 Lib.Math.min.name).before _ s = true) (hts _ (List.mem_of_getElem? (i := 8) rfl) : (Cond.static Lib.Math.min.name).before _ s = true) (hts _ (List.mem_of_getElem? (i := 4) rfl) : (Cond.initialized "java/lang/Math").before _ s = true) (hts _ (List.mem_of_getElem? (i := 9) rfl) : (Cond.code Lib.Math.min.name Lib.Math.min.code 2 (some .int)).before _ s = true) (Nat.le_of_ble_eq_true rfl) (Nat.le_of_ble_eq_true rfl) (Nat.le_of_ble_eq_true rfl) (Nat.le_of_ble_eq_true rfl) dX8_narrow_24 ?_
  refine va_put (D := g) (ci := 8) (v := Value.int (iI (min hi h2))) (ty := .int) (C := RX8) (T := TX8) (N := 3) hx hb hts in_X8_narrow_X8 tyX8 tyX8_ok nmX8 hown hK.1 hP hD hS 0 (rfl) rfl 1 (by decide) (hts _ (List.mem_of_getElem? (i := 6) rfl) : (Cond.fieldLink RX8 15 "CordSeals$Years" "high" "I").before _ s = true) (fun _ h9 => h9) rfl (by decide +kernel) rfl rfl (Nat.le_of_ble_eq_true rfl) dX8_narrow_27 (fun H locs hP hD hS => ?_)
  have hP : va_P g vwCl ([yC a (max lo l2) (min hi h2) sp] ++ [yC b l2 h2 s2]) H := hP
  have hD : va_D A ([yC a (max lo l2) (min hi h2) sp] ++ [yC b l2 h2 s2]) := hD
  refine lv_aload_n hx hb dX8_narrow_30 rfl (lv_at hl 0 rfl) ?_
  refine lv_dup hx hb dX8_narrow_31 rfl ?_
  refine va_get (D := g) (ci := 8) (v := Value.int (iI sp)) (C := RX8) (T := TX8) (N := 3) hx hb hts in_X8_narrow_X8 hown hK.1 hP 0 (rfl) rfl 2 (by decide) (hts _ (List.mem_of_getElem? (i := 10) rfl) : (Cond.fieldLink RX8 18 "CordSeals$Years" "spans" "I").before _ s = true) (fun _ h9 => h9) rfl dX8_narrow_32 ?_
  refine lv_aload_n hx hb dX8_narrow_35 rfl (lv_at hl 1 rfl) ?_
  refine va_get (D := g) (ci := 8) (v := Value.int (iI s2)) (C := RX8) (T := TX8) (N := 3) hx hb hts in_X8_narrow_X8 hown hK.1 hP 1 (rfl) rfl 2 (by decide) (hts _ (List.mem_of_getElem? (i := 10) rfl) : (Cond.fieldLink RX8 18 "CordSeals$Years" "spans" "I").before _ s = true) (fun _ h9 => h9) rfl dX8_narrow_36 ?_
  refine zi_and hx hb ⟨by omega, by omega⟩ dX8_narrow_39 ?_
  refine va_put (D := g) (ci := 8) (v := Value.int (iI (zand sp s2))) (ty := .int) (C := RX8) (T := TX8) (N := 3) hx hb hts in_X8_narrow_X8 tyX8 tyX8_ok nmX8 hown hK.1 hP hD hS 0 (rfl) rfl 2 (by decide) (hts _ (List.mem_of_getElem? (i := 10) rfl) : (Cond.fieldLink RX8 18 "CordSeals$Years" "spans" "I").before _ s = true) (fun _ h9 => h9) rfl (by decide +kernel) rfl rfl (Nat.le_of_ble_eq_true rfl) dX8_narrow_40 (fun H locs hP hD hS => ?_)
  have hP : va_P g vwCl ([yC a (max lo l2) (min hi h2) (zand sp s2)] ++ [yC b l2 h2 s2]) H := hP
  have hD : va_D A ([yC a (max lo l2) (min hi h2) (zand sp s2)] ++ [yC b l2 h2 s2]) := hD
  exact rw_vret hx hb hr hlocks hP hS (⟨rfl, rfl⟩) dX8_narrow_43

theorem cd_X8_first : cd yX8_first 1 := by decide +kernel
theorem in_X8_first_X3 : ∀ w ∈ wsX30, w ∈ wsX8_first := by decide +kernel
theorem in_X8_first_X8 : ∀ w ∈ wsX80, w ∈ wsX8_first := by decide +kernel
set_option maxHeartbeats 1000000 in
set_option maxRecDepth 100000 in
theorem c_X8_first (l : Launch) (g : va_G) (τ : Nat → ClassId) (a : Nat) (lo hi sp : Int) (hlo : -1 ≤ lo ∧ lo < 65536) (hhi : -1 ≤ hi ∧ hi < 65536) (hsp : 0 ≤ sp ∧ sp < 65536) (ad : Nat → Nat) (R : Nat → Nat → Int) (hB : ∀ k j, -1 ≤ R k j ∧ R k j < 65536) (n : Nat) (hn : n ≤ 10) (hN : R 1 0 = (n : Int))  : Met l yX8_first wsX8_first { frames := 1, cells := 0, slots := 0, locals := 21 } (va_Pc [Value.ref a, Value.ref (ad 1)] (roW g τ ([yC a lo hi sp] ++ rgW ad R τ))) (roQ (some (Value.int (iI (yFirst R n lo hi sp))))) 0 0 nof := by
  refine roMet (cc := cX8_first) (maxL := 4) (ret := (some .int)) (lv := [(0, Value.ref a), (1, Value.ref (ad 1))]) (by decide) rfl (Nat.le_of_ble_eq_true rfl) rfl ?_
  intro p e s m below meth c hx hb hr hml hts hown hlocks hP hK ls hl
  refine lv_iconst (v := iI 0) hx hb dX8_first_0 (by decide) ?_
  refine lv_istore_n (lv' := [(2, Value.int (iI 0)), (0, Value.ref a), (1, Value.ref (ad 1))]) hx hb dX8_first_1 rfl hl (by decide) rfl (fun ls hl => ?_)
  refine lp_up (fun i => [(2, Value.int (iI (i : Int))), (0, Value.ref a), (1, Value.ref (ad 1))]) (fun i => ∀ j, j < i → yOk R n lo hi sp j = false) (n + 1) (0) (by omega) (by first | trivial | (intro j hj; omega)) (lv_eq (lv_sub hl [0, 1, 2] rfl) (by show [(2, Value.int (iI 0)), (0, Value.ref a), (1, Value.ref (ad 1))] = [(2, Value.int (iI 0)), (0, Value.ref a), (1, Value.ref (ad 1))]; rfl)) (fun i h0_i hi_i hI_i ih_2 ls hl => ?_)
  refine lv_iload_n hx hb dX8_first_2 rfl (lv_at hl 0 rfl) ?_
  refine lv_aload_n hx hb dX8_first_3 rfl (lv_at hl 2 rfl) ?_
  refine va_get (D := g) (ci := 3) (v := Value.int (iI (R 1 0))) (C := RX3) (T := TX3) (N := 3) hx hb hts in_X8_first_X3 hown hK.1 hP 1 (rfl) rfl 0 (by decide) (hts _ (List.mem_of_getElem? (i := 1) rfl) : (Cond.fieldLink RX8 30 "CordSeals$Reigns" "count" "I").before _ s = true) (fun _ h9 => h9) rfl dX8_first_4 ?_
  have hb_1 := hB 1 0
  refine zi_icmp_gt (tgt := 55) hx hb ⟨by omega, by omega⟩ ⟨by omega, by omega⟩ dX8_first_7 (by decide) (fun c_2 => ?_) (fun c_2 => ?_)
  · have _ := c_2
    have h0_i : i = n + 1 := by omega
    refine lv_iconst (v := iI (-1)) hx hb dX8_first_55 (by decide) ?_
    exact zo_iret hx hb hr hlocks (by rw [yFirst, yFi, ← h0_i, fst_none hI_i, if_neg (by omega)]) dX8_first_56
  · have _ := c_2
    have hl_i : i < n + 1 := by omega
    refine lv_aload_n hx hb dX8_first_10 rfl (lv_at hl 1 rfl) ?_
    refine va_get (D := g) (ci := 8) (v := Value.int (iI lo)) (C := RX8) (T := TX8) (N := 3) hx hb hts in_X8_first_X8 hown hK.1 hP 0 (rfl) rfl 0 (by decide) (hts _ (List.mem_of_getElem? (i := 2) rfl) : (Cond.fieldLink RX8 9 "CordSeals$Years" "low" "I").before _ s = true) (fun _ h9 => h9) rfl dX8_first_11 ?_
    refine lv_aload_n hx hb dX8_first_14 rfl (lv_at hl 2 rfl) ?_
    refine lv_iload_n hx hb dX8_first_15 rfl (lv_at hl 0 rfl) ?_
    refine ro_V (As := [Value.int (iI (i : Int))]) (rest := [Value.int (iI lo)]) (v := some (Value.int (iI (kFirst R i)))) ⟨hx, hb, hml, hown, hts⟩ (c_X3_firstOfSpan l g τ ad R hB n hn hN i (by omega)) gX8_first_X3_firstOfSpan cd_X3_firstOfSpan rfl rfl ⟨rfl, rfl⟩ ⟨Nat.le_of_ble_eq_true rfl, Nat.le_of_ble_eq_true rfl⟩ hK (va_right (a := [yC a lo hi sp]) hP) 0 rfl rfl rfl rfl hl rfl (Nat.le_of_ble_eq_true rfl) dX8_first_16 ⟨Nat.le_of_ble_eq_true rfl, Nat.le_of_ble_eq_true rfl⟩ ?_
    refine tl_some ?_
    have hkf := kFirst_r R hB i
    refine zi_max hx hb (hml.trans hl.1.symm) ⟨by omega, by omega⟩ ⟨by omega, by omega⟩ hown (hts _ (List.mem_of_getElem? (i := 3) rfl) : (Cond.methodLink RX8 21 Lib.Math.max.name).before _ s = true) (hts _ (List.mem_of_getElem? (i := 4) rfl) : (Cond.static Lib.Math.max.name).before _ s = true) (hts _ (List.mem_of_getElem? (i := 5) rfl) : (Cond.initialized "java/lang/Math").before _ s = true) (hts _ (List.mem_of_getElem? (i := 6) rfl) : (Cond.code Lib.Math.max.name Lib.Math.max.code 2 (some .int)).before _ s = true) (Nat.le_of_ble_eq_true rfl) (Nat.le_of_ble_eq_true rfl) (Nat.le_of_ble_eq_true rfl) (Nat.le_of_ble_eq_true rfl) dX8_first_19 ?_
    refine lv_istore_n (lv' := [(3, Value.int (iI (max lo (kFirst R i)))), (2, Value.int (iI (i : Int))), (0, Value.ref a), (1, Value.ref (ad 1))]) hx hb dX8_first_22 rfl hl (by decide) rfl (fun ls hl => ?_)
    refine lv_aload_n hx hb dX8_first_23 rfl (lv_at hl 2 rfl) ?_
    refine lv_iload_n hx hb dX8_first_24 rfl (lv_at hl 1 rfl) ?_
    refine ro_V (As := [Value.int (iI (i : Int))]) (rest := []) (v := some (Value.int (iI (zB (zbit sp i))))) ⟨hx, hb, hml, hown, hts⟩ (c_X8_hasSpan l g τ a lo hi sp hlo hhi hsp i (by omega)) gX8_first_X8_hasSpan cd_X8_hasSpan rfl rfl ⟨rfl, rfl⟩ ⟨Nat.le_of_ble_eq_true rfl, Nat.le_of_ble_eq_true rfl⟩ hK (va_left (b := rgW ad R τ) hP) 0 rfl rfl rfl rfl hl rfl (Nat.le_of_ble_eq_true rfl) dX8_first_25 ⟨Nat.le_of_ble_eq_true rfl, Nat.le_of_ble_eq_true rfl⟩ ?_
    refine tl_some ?_
    refine zb_if_eq (tgt := 49) hx hb dX8_first_28 (by decide) (fun c_3 => ?_) (fun c_3 => ?_)
    · have _ := c_3
      refine zi_inc (v := ((i + 1 : Nat) : Int)) (lv' := [(2, Value.int (iI ((i + 1 : Nat) : Int))), (3, Value.int (iI (max lo (kFirst R i)))), (0, Value.ref a), (1, Value.ref (ad 1))]) hx hb dX8_first_49 hl (k := 1) rfl (by omega) (by decide) rfl (fun ls hl => ?_)
      refine lv_goto (tgt := 2) hx hb dX8_first_52 (by decide) ?_
      have hb_4 : (((i + 1) : Nat) : Int) = ((i + 1 : Nat) : Int) := by first | rfl | omega | (simp [c_2, c_3]; done)
      exact ih_2 hl_i (lt_step hI_i (by simp only [yOk, yFrom, yTo, c_2, c_3]; first | rfl | (rw [Bool.and_eq_false_iff]; right; exact decide_eq_false (by omega)))) _ (lv_eq (lv_sub hl [0, 2, 3] rfl) (by show [(2, Value.int (iI (((i + 1) : Nat) : Int))), (0, Value.ref a), (1, Value.ref (ad 1))] = [(2, Value.int (iI ((i + 1 : Nat) : Int))), (0, Value.ref a), (1, Value.ref (ad 1))]; rw [hb_4]))
    · have _ := c_3
      refine lv_iload_n hx hb dX8_first_31 rfl (lv_at hl 0 rfl) ?_
      refine lv_aload_n hx hb dX8_first_32 rfl (lv_at hl 2 rfl) ?_
      refine va_get (D := g) (ci := 8) (v := Value.int (iI hi)) (C := RX8) (T := TX8) (N := 3) hx hb hts in_X8_first_X8 hown hK.1 hP 0 (rfl) rfl 1 (by decide) (hts _ (List.mem_of_getElem? (i := 7) rfl) : (Cond.fieldLink RX8 15 "CordSeals$Years" "high" "I").before _ s = true) (fun _ h9 => h9) rfl dX8_first_33 ?_
      refine lv_aload_n hx hb dX8_first_36 rfl (lv_at hl 3 rfl) ?_
      refine lv_iload_n hx hb dX8_first_37 rfl (lv_at hl 1 rfl) ?_
      refine ro_V (As := [Value.int (iI (i : Int))]) (rest := [Value.int (iI hi), Value.int (iI (max lo (kFirst R i)))]) (v := some (Value.int (iI (kLast R n i)))) ⟨hx, hb, hml, hown, hts⟩ (c_X3_lastOfSpan l g τ ad R hB n hn hN i (by omega)) gX8_first_X3_lastOfSpan cd_X3_lastOfSpan rfl rfl ⟨rfl, rfl⟩ ⟨Nat.le_of_ble_eq_true rfl, Nat.le_of_ble_eq_true rfl⟩ hK (va_right (a := [yC a lo hi sp]) hP) 0 rfl rfl rfl rfl hl rfl (Nat.le_of_ble_eq_true rfl) dX8_first_38 ⟨Nat.le_of_ble_eq_true rfl, Nat.le_of_ble_eq_true rfl⟩ ?_
      refine tl_some ?_
      have hkl := kLast_r R hB n i
      refine zi_min hx hb (hml.trans hl.1.symm) ⟨by omega, by omega⟩ ⟨by omega, by omega⟩ hown (hts _ (List.mem_of_getElem? (i := 8) rfl) : (Cond.methodLink RX8 27 Lib.Math.min.name).before _ s = true) (hts _ (List.mem_of_getElem? (i := 9) rfl) : (Cond.static Lib.Math.min.name).before _ s = true) (hts _ (List.mem_of_getElem? (i := 5) rfl) : (Cond.initialized "java/lang/Math").before _ s = true) (hts _ (List.mem_of_getElem? (i := 10) rfl) : (Cond.code Lib.Math.min.name Lib.Math.min.code 2 (some .int)).before _ s = true) (Nat.le_of_ble_eq_true rfl) (Nat.le_of_ble_eq_true rfl) (Nat.le_of_ble_eq_true rfl) (Nat.le_of_ble_eq_true rfl) dX8_first_41 ?_
      refine zi_icmp_gt (tgt := 49) hx hb ⟨by omega, by omega⟩ ⟨by omega, by omega⟩ dX8_first_44 (by decide) (fun c_5 => ?_) (fun c_5 => ?_)
      · have _ := c_5
        refine zi_inc (v := ((i + 1 : Nat) : Int)) (lv' := [(2, Value.int (iI ((i + 1 : Nat) : Int))), (3, Value.int (iI (max lo (kFirst R i)))), (0, Value.ref a), (1, Value.ref (ad 1))]) hx hb dX8_first_49 hl (k := 1) rfl (by omega) (by decide) rfl (fun ls hl => ?_)
        refine lv_goto (tgt := 2) hx hb dX8_first_52 (by decide) ?_
        have hb_6 : (((i + 1) : Nat) : Int) = ((i + 1 : Nat) : Int) := by first | rfl | omega | (simp [c_2, c_3, c_5]; done)
        exact ih_2 hl_i (lt_step hI_i (by simp only [yOk, yFrom, yTo, c_2, c_3, c_5]; first | rfl | (rw [Bool.and_eq_false_iff]; right; exact decide_eq_false (by omega)))) _ (lv_eq (lv_sub hl [0, 2, 3] rfl) (by show [(2, Value.int (iI (((i + 1) : Nat) : Int))), (0, Value.ref a), (1, Value.ref (ad 1))] = [(2, Value.int (iI ((i + 1 : Nat) : Int))), (0, Value.ref a), (1, Value.ref (ad 1))]; rw [hb_6]))
      · have _ := c_5
        have hk : yOk R n lo hi sp i = true := by unfold yOk yFrom yTo; rw [show zbit sp i = true from by assumption, Bool.true_and]; exact decide_eq_true (by assumption)
        have hf : yFi R n lo hi sp = i := fst_some hI_i hk hl_i
        refine lv_iload_n hx hb dX8_first_47 rfl (lv_at hl 0 rfl) ?_
        exact zo_iret hx hb hr hlocks (by rw [yFirst, hf, if_pos hl_i]; rfl) dX8_first_48

theorem cd_X8_last : cd yX8_last 1 := by decide +kernel
theorem in_X8_last_X3 : ∀ w ∈ wsX30, w ∈ wsX8_last := by decide +kernel
theorem in_X8_last_X8 : ∀ w ∈ wsX80, w ∈ wsX8_last := by decide +kernel
set_option maxHeartbeats 1000000 in
set_option maxRecDepth 100000 in
theorem c_X8_last (l : Launch) (g : va_G) (τ : Nat → ClassId) (a : Nat) (lo hi sp : Int) (hlo : -1 ≤ lo ∧ lo < 65536) (hhi : -1 ≤ hi ∧ hi < 65536) (hsp : 0 ≤ sp ∧ sp < 65536) (ad : Nat → Nat) (R : Nat → Nat → Int) (hB : ∀ k j, -1 ≤ R k j ∧ R k j < 65536) (n : Nat) (hn : n ≤ 10) (hN : R 1 0 = (n : Int))  : Met l yX8_last wsX8_last { frames := 1, cells := 0, slots := 0, locals := 21 } (va_Pc [Value.ref a, Value.ref (ad 1)] (roW g τ ([yC a lo hi sp] ++ rgW ad R τ))) (roQ (some (Value.int (iI (yLast R n lo hi sp))))) 0 0 nof := by
  refine roMet (cc := cX8_last) (maxL := 4) (ret := (some .int)) (lv := [(0, Value.ref a), (1, Value.ref (ad 1))]) (by decide) rfl (Nat.le_of_ble_eq_true rfl) rfl ?_
  intro p e s m below meth c hx hb hr hml hts hown hlocks hP hK ls hl
  refine lv_aload_n hx hb dX8_last_0 rfl (lv_at hl 1 rfl) ?_
  refine va_get (D := g) (ci := 3) (v := Value.int (iI (R 1 0))) (C := RX3) (T := TX3) (N := 3) hx hb hts in_X8_last_X3 hown hK.1 hP 1 (rfl) rfl 0 (by decide) (hts _ (List.mem_of_getElem? (i := 1) rfl) : (Cond.fieldLink RX8 30 "CordSeals$Reigns" "count" "I").before _ s = true) (fun _ h9 => h9) rfl dX8_last_1 ?_
  have hb_1 := hB 1 0
  refine lv_istore_n (lv' := [(2, Value.int (iI (R 1 0))), (0, Value.ref a), (1, Value.ref (ad 1))]) hx hb dX8_last_4 rfl hl (by decide) rfl (fun ls hl => ?_)
  have h0_2 : (n : Int) - ((0 : Nat) : Int) = R 1 0 := by omega
  refine lp_up (fun i => [(2, Value.int (iI ((n : Int) - ((i : Nat) : Int)))), (0, Value.ref a), (1, Value.ref (ad 1))]) (fun i => ∀ j, j < i → yOk R n lo hi sp (n - j) = false) (n + 1) (0) (by omega) (by first | trivial | (intro j hj; omega)) (lv_eq (lv_sub hl [0, 1, 2] rfl) (by show [(2, Value.int (iI ((n : Int) - ((0 : Nat) : Int)))), (0, Value.ref a), (1, Value.ref (ad 1))] = [(2, Value.int (iI (R 1 0))), (0, Value.ref a), (1, Value.ref (ad 1))]; rw [h0_2])) (fun i h0_i hi_i hI_i ih_5 ls hl => ?_)
  refine lv_iload_n hx hb dX8_last_5 rfl (lv_at hl 0 rfl) ?_
  refine zi_if_lt (tgt := 54) hx hb ⟨by omega, by omega⟩ dX8_last_6 (by decide) (fun c_3 => ?_) (fun c_3 => ?_)
  · have _ := c_3
    have h0_i : i = n + 1 := by omega
    refine lv_iconst (v := iI (-1)) hx hb dX8_last_54 (by decide) ?_
    exact zo_iret hx hb hr hlocks (by rw [yLast, yLi, ← h0_i, fst_none hI_i, if_neg (by omega)]) dX8_last_55
  · have _ := c_3
    have hl_i : i < n + 1 := by omega
    refine lv_aload_n hx hb dX8_last_9 rfl (lv_at hl 1 rfl) ?_
    refine va_get (D := g) (ci := 8) (v := Value.int (iI hi)) (C := RX8) (T := TX8) (N := 3) hx hb hts in_X8_last_X8 hown hK.1 hP 0 (rfl) rfl 1 (by decide) (hts _ (List.mem_of_getElem? (i := 2) rfl) : (Cond.fieldLink RX8 15 "CordSeals$Years" "high" "I").before _ s = true) (fun _ h9 => h9) rfl dX8_last_10 ?_
    refine lv_aload_n hx hb dX8_last_13 rfl (lv_at hl 2 rfl) ?_
    refine lv_iload_n hx hb dX8_last_14 rfl (lv_at hl 0 rfl) ?_
    refine cv_i (y := iI ((n - i : Nat) : Int)) (congrArg iI (by omega)) ?_
    refine ro_V (As := [Value.int (iI ((n - i : Nat) : Int))]) (rest := [Value.int (iI hi)]) (v := some (Value.int (iI (kLast R n (n - i))))) ⟨hx, hb, hml, hown, hts⟩ (c_X3_lastOfSpan l g τ ad R hB n hn hN (n - i) (by omega)) gX8_last_X3_lastOfSpan cd_X3_lastOfSpan rfl rfl ⟨rfl, rfl⟩ ⟨Nat.le_of_ble_eq_true rfl, Nat.le_of_ble_eq_true rfl⟩ hK (va_right (a := [yC a lo hi sp]) hP) 0 rfl rfl rfl rfl hl rfl (Nat.le_of_ble_eq_true rfl) dX8_last_15 ⟨Nat.le_of_ble_eq_true rfl, Nat.le_of_ble_eq_true rfl⟩ ?_
    refine tl_some ?_
    have hkl := kLast_r R hB n (n - i)
    refine zi_min hx hb (hml.trans hl.1.symm) ⟨by omega, by omega⟩ ⟨by omega, by omega⟩ hown (hts _ (List.mem_of_getElem? (i := 3) rfl) : (Cond.methodLink RX8 27 Lib.Math.min.name).before _ s = true) (hts _ (List.mem_of_getElem? (i := 4) rfl) : (Cond.static Lib.Math.min.name).before _ s = true) (hts _ (List.mem_of_getElem? (i := 5) rfl) : (Cond.initialized "java/lang/Math").before _ s = true) (hts _ (List.mem_of_getElem? (i := 6) rfl) : (Cond.code Lib.Math.min.name Lib.Math.min.code 2 (some .int)).before _ s = true) (Nat.le_of_ble_eq_true rfl) (Nat.le_of_ble_eq_true rfl) (Nat.le_of_ble_eq_true rfl) (Nat.le_of_ble_eq_true rfl) dX8_last_18 ?_
    refine lv_istore_n (lv' := [(3, Value.int (iI (min hi (kLast R n (n - i))))), (2, Value.int (iI ((n : Int) - ((i : Nat) : Int)))), (0, Value.ref a), (1, Value.ref (ad 1))]) hx hb dX8_last_21 rfl hl (by decide) rfl (fun ls hl => ?_)
    refine lv_aload_n hx hb dX8_last_22 rfl (lv_at hl 2 rfl) ?_
    refine lv_iload_n hx hb dX8_last_23 rfl (lv_at hl 1 rfl) ?_
    refine cv_i (y := iI ((n - i : Nat) : Int)) (congrArg iI (by omega)) ?_
    refine ro_V (As := [Value.int (iI ((n - i : Nat) : Int))]) (rest := []) (v := some (Value.int (iI (zB (zbit sp (n - i)))))) ⟨hx, hb, hml, hown, hts⟩ (c_X8_hasSpan l g τ a lo hi sp hlo hhi hsp (n - i) (by omega)) gX8_last_X8_hasSpan cd_X8_hasSpan rfl rfl ⟨rfl, rfl⟩ ⟨Nat.le_of_ble_eq_true rfl, Nat.le_of_ble_eq_true rfl⟩ hK (va_left (b := rgW ad R τ) hP) 0 rfl rfl rfl rfl hl rfl (Nat.le_of_ble_eq_true rfl) dX8_last_24 ⟨Nat.le_of_ble_eq_true rfl, Nat.le_of_ble_eq_true rfl⟩ ?_
    refine tl_some ?_
    refine zb_if_eq (tgt := 48) hx hb dX8_last_27 (by decide) (fun c_4 => ?_) (fun c_4 => ?_)
    · have _ := c_4
      refine zi_inc (v := ((n : Int) - ((i : Nat) : Int)) + (-1)) (lv' := [(2, Value.int (iI (((n : Int) - ((i : Nat) : Int)) + (-1)))), (3, Value.int (iI (min hi (kLast R n (n - i))))), (0, Value.ref a), (1, Value.ref (ad 1))]) hx hb dX8_last_48 hl (k := 1) rfl rfl (by decide) rfl (fun ls hl => ?_)
      refine lv_goto (tgt := 5) hx hb dX8_last_51 (by decide) ?_
      have hb_5 : (n : Int) - (((i + 1) : Nat) : Int) = ((n : Int) - ((i : Nat) : Int)) + (-1) := by first | rfl | omega | (simp [c_3, c_4]; done)
      exact ih_5 hl_i (lt_step hI_i (by simp only [yOk, yFrom, yTo, c_3, c_4]; first | rfl | (rw [Bool.and_eq_false_iff]; right; exact decide_eq_false (by omega)))) _ (lv_eq (lv_sub hl [0, 2, 3] rfl) (by show [(2, Value.int (iI ((n : Int) - (((i + 1) : Nat) : Int)))), (0, Value.ref a), (1, Value.ref (ad 1))] = [(2, Value.int (iI (((n : Int) - ((i : Nat) : Int)) + (-1)))), (0, Value.ref a), (1, Value.ref (ad 1))]; rw [hb_5]))
    · have _ := c_4
      refine lv_iload_n hx hb dX8_last_30 rfl (lv_at hl 0 rfl) ?_
      refine lv_aload_n hx hb dX8_last_31 rfl (lv_at hl 2 rfl) ?_
      refine va_get (D := g) (ci := 8) (v := Value.int (iI lo)) (C := RX8) (T := TX8) (N := 3) hx hb hts in_X8_last_X8 hown hK.1 hP 0 (rfl) rfl 0 (by decide) (hts _ (List.mem_of_getElem? (i := 7) rfl) : (Cond.fieldLink RX8 9 "CordSeals$Years" "low" "I").before _ s = true) (fun _ h9 => h9) rfl dX8_last_32 ?_
      refine lv_aload_n hx hb dX8_last_35 rfl (lv_at hl 3 rfl) ?_
      refine lv_iload_n hx hb dX8_last_36 rfl (lv_at hl 1 rfl) ?_
      refine cv_i (y := iI ((n - i : Nat) : Int)) (congrArg iI (by omega)) ?_
      refine ro_V (As := [Value.int (iI ((n - i : Nat) : Int))]) (rest := [Value.int (iI lo), Value.int (iI (min hi (kLast R n (n - i))))]) (v := some (Value.int (iI (kFirst R (n - i))))) ⟨hx, hb, hml, hown, hts⟩ (c_X3_firstOfSpan l g τ ad R hB n hn hN (n - i) (by omega)) gX8_last_X3_firstOfSpan cd_X3_firstOfSpan rfl rfl ⟨rfl, rfl⟩ ⟨Nat.le_of_ble_eq_true rfl, Nat.le_of_ble_eq_true rfl⟩ hK (va_right (a := [yC a lo hi sp]) hP) 0 rfl rfl rfl rfl hl rfl (Nat.le_of_ble_eq_true rfl) dX8_last_37 ⟨Nat.le_of_ble_eq_true rfl, Nat.le_of_ble_eq_true rfl⟩ ?_
      refine tl_some ?_
      have hkf := kFirst_r R hB (n - i)
      refine zi_max hx hb (hml.trans hl.1.symm) ⟨by omega, by omega⟩ ⟨by omega, by omega⟩ hown (hts _ (List.mem_of_getElem? (i := 8) rfl) : (Cond.methodLink RX8 21 Lib.Math.max.name).before _ s = true) (hts _ (List.mem_of_getElem? (i := 9) rfl) : (Cond.static Lib.Math.max.name).before _ s = true) (hts _ (List.mem_of_getElem? (i := 5) rfl) : (Cond.initialized "java/lang/Math").before _ s = true) (hts _ (List.mem_of_getElem? (i := 10) rfl) : (Cond.code Lib.Math.max.name Lib.Math.max.code 2 (some .int)).before _ s = true) (Nat.le_of_ble_eq_true rfl) (Nat.le_of_ble_eq_true rfl) (Nat.le_of_ble_eq_true rfl) (Nat.le_of_ble_eq_true rfl) dX8_last_40 ?_
      refine zi_icmp_lt (tgt := 48) hx hb ⟨by omega, by omega⟩ ⟨by omega, by omega⟩ dX8_last_43 (by decide) (fun c_6 => ?_) (fun c_6 => ?_)
      · have _ := c_6
        refine zi_inc (v := ((n : Int) - ((i : Nat) : Int)) + (-1)) (lv' := [(2, Value.int (iI (((n : Int) - ((i : Nat) : Int)) + (-1)))), (3, Value.int (iI (min hi (kLast R n (n - i))))), (0, Value.ref a), (1, Value.ref (ad 1))]) hx hb dX8_last_48 hl (k := 1) rfl rfl (by decide) rfl (fun ls hl => ?_)
        refine lv_goto (tgt := 5) hx hb dX8_last_51 (by decide) ?_
        have hb_7 : (n : Int) - (((i + 1) : Nat) : Int) = ((n : Int) - ((i : Nat) : Int)) + (-1) := by first | rfl | omega | (simp [c_3, c_4, c_6]; done)
        exact ih_5 hl_i (lt_step hI_i (by simp only [yOk, yFrom, yTo, c_3, c_4, c_6]; first | rfl | (rw [Bool.and_eq_false_iff]; right; exact decide_eq_false (by omega)))) _ (lv_eq (lv_sub hl [0, 2, 3] rfl) (by show [(2, Value.int (iI ((n : Int) - (((i + 1) : Nat) : Int)))), (0, Value.ref a), (1, Value.ref (ad 1))] = [(2, Value.int (iI (((n : Int) - ((i : Nat) : Int)) + (-1)))), (0, Value.ref a), (1, Value.ref (ad 1))]; rw [hb_7]))
      · have _ := c_6
        have hk : yOk R n lo hi sp (n - i) = true := by unfold yOk yFrom yTo; rw [show zbit sp (n - i) = true from by assumption, Bool.true_and]; exact decide_eq_true (by assumption)
        have hf : yLi R n lo hi sp = i := fst_some (p := fun j => yOk R n lo hi sp (n - j)) hI_i hk hl_i
        refine lv_iload_n hx hb dX8_last_46 rfl (lv_at hl 0 rfl) ?_
        exact zo_iret hx hb hr hlocks (by rw [yLast, hf, if_pos hl_i]; rfl) dX8_last_47

theorem cd_X8_count : cd yX8_count 1 := by decide +kernel
theorem in_X8_count_X3 : ∀ w ∈ wsX30, w ∈ wsX8_count := by decide +kernel
theorem in_X8_count_X8 : ∀ w ∈ wsX80, w ∈ wsX8_count := by decide +kernel
set_option maxHeartbeats 1000000 in
set_option maxRecDepth 100000 in
theorem c_X8_count (l : Launch) (g : va_G) (τ : Nat → ClassId) (a : Nat) (lo hi sp : Int) (hlo : -1 ≤ lo ∧ lo < 65536) (hhi : -1 ≤ hi ∧ hi < 65536) (hsp : 0 ≤ sp ∧ sp < 65536) (ad : Nat → Nat) (R : Nat → Nat → Int) (hB : ∀ k j, -1 ≤ R k j ∧ R k j < 65536) (n : Nat) (hn : n ≤ 10) (hN : R 1 0 = (n : Int))  : Met l yX8_count wsX8_count { frames := 1, cells := 0, slots := 0, locals := 21 } (va_Pc [Value.ref a, Value.ref (ad 1)] (roW g τ ([yC a lo hi sp] ++ rgW ad R τ))) (roQ (some (Value.int (iI (yCount R n lo hi sp (n + 1)))))) 0 0 nof := by
  refine roMet (cc := cX8_count) (maxL := 6) (ret := (some .int)) (lv := [(0, Value.ref a), (1, Value.ref (ad 1))]) (by decide) rfl (Nat.le_of_ble_eq_true rfl) rfl ?_
  intro p e s m below meth c hx hb hr hml hts hown hlocks hP hK ls hl
  refine lv_iconst (v := iI 0) hx hb dX8_count_0 (by decide) ?_
  refine lv_istore_n (lv' := [(2, Value.int (iI 0)), (0, Value.ref a), (1, Value.ref (ad 1))]) hx hb dX8_count_1 rfl hl (by decide) rfl (fun ls hl => ?_)
  refine lv_iconst (v := iI 0) hx hb dX8_count_2 (by decide) ?_
  refine lv_istore_n (lv' := [(3, Value.int (iI 0)), (2, Value.int (iI 0)), (0, Value.ref a), (1, Value.ref (ad 1))]) hx hb dX8_count_3 rfl hl (by decide) rfl (fun ls hl => ?_)
  have h0_1 : yCount R n lo hi sp 0 = 0 := by first | rfl | omega | (simp []; done)
  refine lp_up (fun i => [(3, Value.int (iI (i : Int))), (2, Value.int (iI (yCount R n lo hi sp i))), (0, Value.ref a), (1, Value.ref (ad 1))]) (fun i => True) (n + 1) (0) (by omega) (by first | trivial | (intro j hj; omega)) (lv_eq (lv_sub hl [0, 1, 2, 3] rfl) (by show [(3, Value.int (iI 0)), (2, Value.int (iI (yCount R n lo hi sp 0))), (0, Value.ref a), (1, Value.ref (ad 1))] = [(3, Value.int (iI 0)), (2, Value.int (iI 0)), (0, Value.ref a), (1, Value.ref (ad 1))]; rw [h0_1])) (fun i h0_i hi_i hI_i ih_4 ls hl => ?_)
  refine lv_iload_n hx hb dX8_count_4 rfl (lv_at hl 0 rfl) ?_
  refine lv_aload_n hx hb dX8_count_5 rfl (lv_at hl 3 rfl) ?_
  refine va_get (D := g) (ci := 3) (v := Value.int (iI (R 1 0))) (C := RX3) (T := TX3) (N := 3) hx hb hts in_X8_count_X3 hown hK.1 hP 1 (rfl) rfl 0 (by decide) (hts _ (List.mem_of_getElem? (i := 1) rfl) : (Cond.fieldLink RX8 30 "CordSeals$Reigns" "count" "I").before _ s = true) (fun _ h9 => h9) rfl dX8_count_6 ?_
  have hb_2 := hB 1 0
  refine zi_icmp_gt (tgt := 71) hx hb ⟨by omega, by omega⟩ ⟨by omega, by omega⟩ dX8_count_9 (by decide) (fun c_3 => ?_) (fun c_3 => ?_)
  · have _ := c_3
    have h0_i : i = n + 1 := by omega
    refine lv_iload_n hx hb dX8_count_71 rfl (lv_at hl 1 rfl) ?_
    exact zo_iret hx hb hr hlocks (by rw [h0_i]) dX8_count_72
  · have _ := c_3
    have hl_i : i < n + 1 := by omega
    refine lv_aload_n hx hb dX8_count_12 rfl (lv_at hl 2 rfl) ?_
    refine va_get (D := g) (ci := 8) (v := Value.int (iI lo)) (C := RX8) (T := TX8) (N := 3) hx hb hts in_X8_count_X8 hown hK.1 hP 0 (rfl) rfl 0 (by decide) (hts _ (List.mem_of_getElem? (i := 2) rfl) : (Cond.fieldLink RX8 9 "CordSeals$Years" "low" "I").before _ s = true) (fun _ h9 => h9) rfl dX8_count_13 ?_
    refine lv_aload_n hx hb dX8_count_16 rfl (lv_at hl 3 rfl) ?_
    refine lv_iload_n hx hb dX8_count_17 rfl (lv_at hl 0 rfl) ?_
    refine ro_V (As := [Value.int (iI (i : Int))]) (rest := [Value.int (iI lo)]) (v := some (Value.int (iI (kFirst R i)))) ⟨hx, hb, hml, hown, hts⟩ (c_X3_firstOfSpan l g τ ad R hB n hn hN i (by omega)) gX8_count_X3_firstOfSpan cd_X3_firstOfSpan rfl rfl ⟨rfl, rfl⟩ ⟨Nat.le_of_ble_eq_true rfl, Nat.le_of_ble_eq_true rfl⟩ hK (va_right (a := [yC a lo hi sp]) hP) 0 rfl rfl rfl rfl hl rfl (Nat.le_of_ble_eq_true rfl) dX8_count_18 ⟨Nat.le_of_ble_eq_true rfl, Nat.le_of_ble_eq_true rfl⟩ ?_
    refine tl_some ?_
    have hkf := kFirst_r R hB i
    refine zi_max hx hb (hml.trans hl.1.symm) ⟨by omega, by omega⟩ ⟨by omega, by omega⟩ hown (hts _ (List.mem_of_getElem? (i := 3) rfl) : (Cond.methodLink RX8 21 Lib.Math.max.name).before _ s = true) (hts _ (List.mem_of_getElem? (i := 4) rfl) : (Cond.static Lib.Math.max.name).before _ s = true) (hts _ (List.mem_of_getElem? (i := 5) rfl) : (Cond.initialized "java/lang/Math").before _ s = true) (hts _ (List.mem_of_getElem? (i := 6) rfl) : (Cond.code Lib.Math.max.name Lib.Math.max.code 2 (some .int)).before _ s = true) (Nat.le_of_ble_eq_true rfl) (Nat.le_of_ble_eq_true rfl) (Nat.le_of_ble_eq_true rfl) (Nat.le_of_ble_eq_true rfl) dX8_count_21 ?_
    refine lv_istore (lv' := [(4, Value.int (iI (max lo (kFirst R i)))), (3, Value.int (iI (i : Int))), (2, Value.int (iI (yCount R n lo hi sp i))), (0, Value.ref a), (1, Value.ref (ad 1))]) hx hb dX8_count_24 hl (by decide) rfl (fun ls hl => ?_)
    refine lv_aload_n hx hb dX8_count_26 rfl (lv_at hl 3 rfl) ?_
    refine va_get (D := g) (ci := 8) (v := Value.int (iI hi)) (C := RX8) (T := TX8) (N := 3) hx hb hts in_X8_count_X8 hown hK.1 hP 0 (rfl) rfl 1 (by decide) (hts _ (List.mem_of_getElem? (i := 7) rfl) : (Cond.fieldLink RX8 15 "CordSeals$Years" "high" "I").before _ s = true) (fun _ h9 => h9) rfl dX8_count_27 ?_
    refine lv_aload_n hx hb dX8_count_30 rfl (lv_at hl 4 rfl) ?_
    refine lv_iload_n hx hb dX8_count_31 rfl (lv_at hl 1 rfl) ?_
    refine ro_V (As := [Value.int (iI (i : Int))]) (rest := [Value.int (iI hi)]) (v := some (Value.int (iI (kLast R n i)))) ⟨hx, hb, hml, hown, hts⟩ (c_X3_lastOfSpan l g τ ad R hB n hn hN i (by omega)) gX8_count_X3_lastOfSpan cd_X3_lastOfSpan rfl rfl ⟨rfl, rfl⟩ ⟨Nat.le_of_ble_eq_true rfl, Nat.le_of_ble_eq_true rfl⟩ hK (va_right (a := [yC a lo hi sp]) hP) 0 rfl rfl rfl rfl hl rfl (Nat.le_of_ble_eq_true rfl) dX8_count_32 ⟨Nat.le_of_ble_eq_true rfl, Nat.le_of_ble_eq_true rfl⟩ ?_
    refine tl_some ?_
    have hkl := kLast_r R hB n i
    refine zi_min hx hb (hml.trans hl.1.symm) ⟨by omega, by omega⟩ ⟨by omega, by omega⟩ hown (hts _ (List.mem_of_getElem? (i := 8) rfl) : (Cond.methodLink RX8 27 Lib.Math.min.name).before _ s = true) (hts _ (List.mem_of_getElem? (i := 9) rfl) : (Cond.static Lib.Math.min.name).before _ s = true) (hts _ (List.mem_of_getElem? (i := 5) rfl) : (Cond.initialized "java/lang/Math").before _ s = true) (hts _ (List.mem_of_getElem? (i := 10) rfl) : (Cond.code Lib.Math.min.name Lib.Math.min.code 2 (some .int)).before _ s = true) (Nat.le_of_ble_eq_true rfl) (Nat.le_of_ble_eq_true rfl) (Nat.le_of_ble_eq_true rfl) (Nat.le_of_ble_eq_true rfl) dX8_count_35 ?_
    refine lv_istore (lv' := [(5, Value.int (iI (min hi (kLast R n i)))), (4, Value.int (iI (max lo (kFirst R i)))), (3, Value.int (iI (i : Int))), (2, Value.int (iI (yCount R n lo hi sp i))), (0, Value.ref a), (1, Value.ref (ad 1))]) hx hb dX8_count_38 hl (by decide) rfl (fun ls hl => ?_)
    refine lv_aload_n hx hb dX8_count_40 rfl (lv_at hl 4 rfl) ?_
    refine lv_iload_n hx hb dX8_count_41 rfl (lv_at hl 2 rfl) ?_
    refine ro_V (As := [Value.int (iI (i : Int))]) (rest := []) (v := some (Value.int (iI (zB (zbit sp i))))) ⟨hx, hb, hml, hown, hts⟩ (c_X8_hasSpan l g τ a lo hi sp hlo hhi hsp i (by omega)) gX8_count_X8_hasSpan cd_X8_hasSpan rfl rfl ⟨rfl, rfl⟩ ⟨Nat.le_of_ble_eq_true rfl, Nat.le_of_ble_eq_true rfl⟩ hK (va_left (b := rgW ad R τ) hP) 0 rfl rfl rfl rfl hl rfl (Nat.le_of_ble_eq_true rfl) dX8_count_42 ⟨Nat.le_of_ble_eq_true rfl, Nat.le_of_ble_eq_true rfl⟩ ?_
    refine tl_some ?_
    refine zb_if_eq (tgt := 65) hx hb dX8_count_45 (by decide) (fun c_4 => ?_) (fun c_4 => ?_)
    · have _ := c_4
      refine zi_inc (v := ((i + 1 : Nat) : Int)) (lv' := [(3, Value.int (iI ((i + 1 : Nat) : Int))), (5, Value.int (iI (min hi (kLast R n i)))), (4, Value.int (iI (max lo (kFirst R i)))), (2, Value.int (iI (yCount R n lo hi sp i))), (0, Value.ref a), (1, Value.ref (ad 1))]) hx hb dX8_count_65 hl (k := 2) rfl (by omega) (by decide) rfl (fun ls hl => ?_)
      refine lv_goto (tgt := 4) hx hb dX8_count_68 (by decide) ?_
      have hb_5 : (((i + 1) : Nat) : Int) = ((i + 1 : Nat) : Int) := by first | rfl | omega | (simp [c_3, c_4]; done)
      have hb_6 : yCount R n lo hi sp (i + 1) = yCount R n lo hi sp i := by first | exact yCount_f (by simp only [yOk, yFrom, yTo, c_3, c_4]; first | rfl | (rw [Bool.and_eq_false_iff]; right; exact decide_eq_false (by omega))) | exact yCount_t (by simp only [yOk, yFrom, yTo, c_3, c_4]; rw [Bool.true_and]; exact decide_eq_true (by omega))
      exact ih_4 hl_i (trivial) _ (lv_eq (lv_sub hl [0, 3, 4, 5] rfl) (by show [(3, Value.int (iI (((i + 1) : Nat) : Int))), (2, Value.int (iI (yCount R n lo hi sp (i + 1)))), (0, Value.ref a), (1, Value.ref (ad 1))] = [(3, Value.int (iI ((i + 1 : Nat) : Int))), (2, Value.int (iI (yCount R n lo hi sp i))), (0, Value.ref a), (1, Value.ref (ad 1))]; rw [hb_5, hb_6]))
    · have _ := c_4
      refine lv_iload hx hb dX8_count_48 (lv_at hl 1 rfl) ?_
      refine lv_iload hx hb dX8_count_50 (lv_at hl 0 rfl) ?_
      refine zi_icmp_gt (tgt := 65) hx hb ⟨by omega, by omega⟩ ⟨by omega, by omega⟩ dX8_count_52 (by decide) (fun c_7 => ?_) (fun c_7 => ?_)
      · have _ := c_7
        refine zi_inc (v := ((i + 1 : Nat) : Int)) (lv' := [(3, Value.int (iI ((i + 1 : Nat) : Int))), (5, Value.int (iI (min hi (kLast R n i)))), (4, Value.int (iI (max lo (kFirst R i)))), (2, Value.int (iI (yCount R n lo hi sp i))), (0, Value.ref a), (1, Value.ref (ad 1))]) hx hb dX8_count_65 hl (k := 2) rfl (by omega) (by decide) rfl (fun ls hl => ?_)
        refine lv_goto (tgt := 4) hx hb dX8_count_68 (by decide) ?_
        have hb_8 : (((i + 1) : Nat) : Int) = ((i + 1 : Nat) : Int) := by first | rfl | omega | (simp [c_3, c_4, c_7]; done)
        have hb_9 : yCount R n lo hi sp (i + 1) = yCount R n lo hi sp i := by first | exact yCount_f (by simp only [yOk, yFrom, yTo, c_3, c_4, c_7]; first | rfl | (rw [Bool.and_eq_false_iff]; right; exact decide_eq_false (by omega))) | exact yCount_t (by simp only [yOk, yFrom, yTo, c_3, c_4, c_7]; rw [Bool.true_and]; exact decide_eq_true (by omega))
        exact ih_4 hl_i (trivial) _ (lv_eq (lv_sub hl [0, 3, 4, 5] rfl) (by show [(3, Value.int (iI (((i + 1) : Nat) : Int))), (2, Value.int (iI (yCount R n lo hi sp (i + 1)))), (0, Value.ref a), (1, Value.ref (ad 1))] = [(3, Value.int (iI ((i + 1 : Nat) : Int))), (2, Value.int (iI (yCount R n lo hi sp i))), (0, Value.ref a), (1, Value.ref (ad 1))]; rw [hb_8, hb_9]))
      · have _ := c_7
        refine lv_iload_n hx hb dX8_count_55 rfl (lv_at hl 3 rfl) ?_
        refine lv_iload hx hb dX8_count_56 (lv_at hl 0 rfl) ?_
        refine lv_iload hx hb dX8_count_58 (lv_at hl 1 rfl) ?_
        refine zi_sub hx hb dX8_count_60 ?_
        refine lv_iconst (v := iI 1) hx hb dX8_count_61 (by decide) ?_
        refine zi_add hx hb dX8_count_62 ?_
        refine zi_add hx hb dX8_count_63 ?_
        refine lv_istore_n (lv' := [(2, Value.int (iI ((yCount R n lo hi sp i) + (((min hi (kLast R n i)) - (max lo (kFirst R i))) + 1)))), (5, Value.int (iI (min hi (kLast R n i)))), (4, Value.int (iI (max lo (kFirst R i)))), (3, Value.int (iI (i : Int))), (0, Value.ref a), (1, Value.ref (ad 1))]) hx hb dX8_count_64 rfl hl (by decide) rfl (fun ls hl => ?_)
        refine zi_inc (v := ((i + 1 : Nat) : Int)) (lv' := [(3, Value.int (iI ((i + 1 : Nat) : Int))), (2, Value.int (iI ((yCount R n lo hi sp i) + (((min hi (kLast R n i)) - (max lo (kFirst R i))) + 1)))), (5, Value.int (iI (min hi (kLast R n i)))), (4, Value.int (iI (max lo (kFirst R i)))), (0, Value.ref a), (1, Value.ref (ad 1))]) hx hb dX8_count_65 hl (k := 3) rfl (by omega) (by decide) rfl (fun ls hl => ?_)
        refine lv_goto (tgt := 4) hx hb dX8_count_68 (by decide) ?_
        have hb_10 : (((i + 1) : Nat) : Int) = ((i + 1 : Nat) : Int) := by first | rfl | omega | (simp [c_3, c_4, c_7]; done)
        have hb_11 : yCount R n lo hi sp (i + 1) = (yCount R n lo hi sp i) + (((min hi (kLast R n i)) - (max lo (kFirst R i))) + 1) := by first | exact yCount_f (by simp only [yOk, yFrom, yTo, c_3, c_4, c_7]; first | rfl | (rw [Bool.and_eq_false_iff]; right; exact decide_eq_false (by omega))) | exact yCount_t (by simp only [yOk, yFrom, yTo, c_3, c_4, c_7]; rw [Bool.true_and]; exact decide_eq_true (by omega))
        exact ih_4 hl_i (trivial) _ (lv_eq (lv_sub hl [0, 1, 4, 5] rfl) (by show [(3, Value.int (iI (((i + 1) : Nat) : Int))), (2, Value.int (iI (yCount R n lo hi sp (i + 1)))), (0, Value.ref a), (1, Value.ref (ad 1))] = [(3, Value.int (iI ((i + 1 : Nat) : Int))), (2, Value.int (iI ((yCount R n lo hi sp i) + (((min hi (kLast R n i)) - (max lo (kFirst R i))) + 1)))), (0, Value.ref a), (1, Value.ref (ad 1))]; rw [hb_10, hb_11]))

theorem cd_X8_contains : cd yX8_contains 2 := by decide +kernel
theorem in_X8_contains_X8 : ∀ w ∈ wsX80, w ∈ wsX8_contains := by decide +kernel
set_option maxHeartbeats 1000000 in
set_option maxRecDepth 100000 in
theorem c_X8_contains (l : Launch) (g : va_G) (τ : Nat → ClassId) (a : Nat) (lo hi sp : Int) (hlo : -1 ≤ lo ∧ lo < 65536) (hhi : -1 ≤ hi ∧ hi < 65536) (hsp : 0 ≤ sp ∧ sp < 65536) (ad : Nat → Nat) (R : Nat → Nat → Int) (hB : ∀ k j, -1 ≤ R k j ∧ R k j < 65536) (n : Nat) (hn : n ≤ 10) (hN : R 1 0 = (n : Int)) (y : Int) (ry : -2147483648 ≤ y ∧ y < 2147483648)  : Met l yX8_contains wsX8_contains { frames := 1, cells := 0, slots := 0, locals := 22 } (va_Pc [Value.ref a, Value.ref (ad 1), Value.int (iI y)] (roW g τ ([yC a lo hi sp] ++ rgW ad R τ))) (roQ (some (Value.int (iI (zB (yHas R n lo hi sp y)))))) 0 0 nof := by
  refine roMet (cc := cX8_contains) (maxL := 3) (ret := (some .boolean)) (lv := [(0, Value.ref a), (1, Value.ref (ad 1)), (2, Value.int (iI y))]) (by decide) rfl (Nat.le_of_ble_eq_true rfl) rfl ?_
  intro p e s m below meth c hx hb hr hml hts hown hlocks hP hK ls hl
  refine lv_iload_n hx hb dX8_contains_0 rfl (lv_at hl 2 rfl) ?_
  refine lv_aload_n hx hb dX8_contains_1 rfl (lv_at hl 0 rfl) ?_
  refine va_get (D := g) (ci := 8) (v := Value.int (iI lo)) (C := RX8) (T := TX8) (N := 3) hx hb hts in_X8_contains_X8 hown hK.1 hP 0 (rfl) rfl 0 (by decide) (hts _ (List.mem_of_getElem? (i := 1) rfl) : (Cond.fieldLink RX8 9 "CordSeals$Years" "low" "I").before _ s = true) (fun _ h9 => h9) rfl dX8_contains_2 ?_
  refine zi_icmp_lt (tgt := 32) hx hb ⟨by omega, by omega⟩ ⟨by omega, by omega⟩ dX8_contains_5 (by decide) (fun c_1 => ?_) (fun c_1 => ?_)
  · have _ := c_1
    have hy : yHas R n lo hi sp y = false := by unfold yHas; rw [Bool.and_eq_false_iff]; first | (left; exact decide_eq_false (by omega)) | (right; assumption)
    refine lv_iconst (v := iI 0) hx hb dX8_contains_32 (by decide) ?_
    exact zo_zret hx hb hr hlocks (by rw [hy]; rfl) dX8_contains_33
  · have _ := c_1
    refine lv_iload_n hx hb dX8_contains_8 rfl (lv_at hl 2 rfl) ?_
    refine lv_aload_n hx hb dX8_contains_9 rfl (lv_at hl 0 rfl) ?_
    refine va_get (D := g) (ci := 8) (v := Value.int (iI hi)) (C := RX8) (T := TX8) (N := 3) hx hb hts in_X8_contains_X8 hown hK.1 hP 0 (rfl) rfl 1 (by decide) (hts _ (List.mem_of_getElem? (i := 2) rfl) : (Cond.fieldLink RX8 15 "CordSeals$Years" "high" "I").before _ s = true) (fun _ h9 => h9) rfl dX8_contains_10 ?_
    refine zi_icmp_gt (tgt := 32) hx hb ⟨by omega, by omega⟩ ⟨by omega, by omega⟩ dX8_contains_13 (by decide) (fun c_2 => ?_) (fun c_2 => ?_)
    · have _ := c_2
      have hy : yHas R n lo hi sp y = false := by unfold yHas; rw [Bool.and_eq_false_iff]; first | (left; exact decide_eq_false (by omega)) | (right; assumption)
      refine lv_iconst (v := iI 0) hx hb dX8_contains_32 (by decide) ?_
      exact zo_zret hx hb hr hlocks (by rw [hy]; rfl) dX8_contains_33
    · have _ := c_2
      refine lv_aload_n hx hb dX8_contains_16 rfl (lv_at hl 0 rfl) ?_
      refine lv_aload_n hx hb dX8_contains_17 rfl (lv_at hl 1 rfl) ?_
      refine lv_iload_n hx hb dX8_contains_18 rfl (lv_at hl 2 rfl) ?_
      refine ro_V (As := [Value.int (iI y)]) (rest := [Value.ref a]) (v := some (Value.int (iI ((kSpan R n y : Nat) : Int)))) ⟨hx, hb, hml, hown, hts⟩ (c_X3_spanOf l g τ ad R hB n hn hN y ⟨by omega, by omega⟩) gX8_contains_X3_spanOf cd_X3_spanOf rfl rfl ⟨rfl, rfl⟩ ⟨Nat.le_of_ble_eq_true rfl, Nat.le_of_ble_eq_true rfl⟩ hK (va_right (a := [yC a lo hi sp]) hP) 0 rfl rfl rfl rfl hl rfl (Nat.le_of_ble_eq_true rfl) dX8_contains_19 ⟨Nat.le_of_ble_eq_true rfl, Nat.le_of_ble_eq_true rfl⟩ ?_
      refine tl_some ?_
      have hks : kSpan R n y ≤ n := fst_le _ _
      refine ro_V (As := [Value.int (iI ((kSpan R n y : Nat) : Int))]) (rest := []) (v := some (Value.int (iI (zB (zbit sp (kSpan R n y)))))) ⟨hx, hb, hml, hown, hts⟩ (c_X8_hasSpan l g τ a lo hi sp hlo hhi hsp (kSpan R n y) (by omega)) gX8_contains_X8_hasSpan cd_X8_hasSpan rfl rfl ⟨rfl, rfl⟩ ⟨Nat.le_of_ble_eq_true rfl, Nat.le_of_ble_eq_true rfl⟩ hK (va_left (b := rgW ad R τ) hP) 0 rfl rfl rfl rfl hl rfl (Nat.le_of_ble_eq_true rfl) dX8_contains_22 ⟨Nat.le_of_ble_eq_true rfl, Nat.le_of_ble_eq_true rfl⟩ ?_
      refine tl_some ?_
      refine zb_if_eq (tgt := 32) hx hb dX8_contains_25 (by decide) (fun c_3 => ?_) (fun c_3 => ?_)
      · have _ := c_3
        have hy : yHas R n lo hi sp y = false := by unfold yHas; rw [Bool.and_eq_false_iff]; first | (left; exact decide_eq_false (by omega)) | (right; assumption)
        refine lv_iconst (v := iI 0) hx hb dX8_contains_32 (by decide) ?_
        exact zo_zret hx hb hr hlocks (by rw [hy]; rfl) dX8_contains_33
      · have _ := c_3
        have hy : yHas R n lo hi sp y = true := by unfold yHas; rw [decide_eq_true (by omega), Bool.true_and]; assumption
        refine lv_iconst (v := iI 1) hx hb dX8_contains_28 (by decide) ?_
        refine lv_goto (tgt := 33) hx hb dX8_contains_29 (by decide) ?_
        exact zo_zret hx hb hr hlocks (by rw [hy]; rfl) dX8_contains_33
