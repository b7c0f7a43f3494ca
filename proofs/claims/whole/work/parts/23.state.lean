theorem cd_X9_isYear : cd yX9_isYear 1 := by decide +kernel
set_option maxHeartbeats 4000000 in
set_option maxRecDepth 100000 in
theorem c_X9_isYear (l : Launch) (g : va_G) (τ : Nat → ClassId) (z : Int) (rz : -2147483648 ≤ z ∧ z < 2147483648)  : Met l yX9_isYear wsX9_isYear { frames := 0, cells := 0, slots := 0, locals := 0 } (va_Pc [Value.int (iI z)] (roW g τ ([]))) (roQ (some (Value.int (iI (zB (decide (1000 ≤ z ∧ z ≤ 1999))))))) 0 0 nof := by
  refine roMet (cc := cX9_isYear) (maxL := 1) (ret := (some .boolean)) (lv := [(0, Value.int (iI z))]) (by decide) rfl (Nat.le_of_ble_eq_true rfl) rfl ?_
  intro p e s m below meth c hx hb hr hml hts hown hlocks hP hK ls hl
  refine lv_iload_n hx hb dX9_isYear_0 rfl (lv_at hl 0 rfl) ?_
  refine lv_sipush (v := iI 1000) hx hb dX9_isYear_1 (by decide) ?_
  refine zi_icmp_lt (tgt := 18) hx hb ⟨by omega, by omega⟩ ⟨by decide, by decide⟩ dX9_isYear_4 (by decide) (fun c_1 => ?_) (fun c_1 => ?_)
  · have _ := c_1
    refine lv_iconst (v := iI 0) hx hb dX9_isYear_18 (by decide) ?_
    exact zo_zret hx hb hr hlocks (by simp only [zB]; split <;> simp_all <;> omega) dX9_isYear_19
  · have _ := c_1
    refine lv_iload_n hx hb dX9_isYear_7 rfl (lv_at hl 0 rfl) ?_
    refine lv_sipush (v := iI 1999) hx hb dX9_isYear_8 (by decide) ?_
    refine zi_icmp_gt (tgt := 18) hx hb ⟨by omega, by omega⟩ ⟨by decide, by decide⟩ dX9_isYear_11 (by decide) (fun c_2 => ?_) (fun c_2 => ?_)
    · have _ := c_2
      refine lv_iconst (v := iI 0) hx hb dX9_isYear_18 (by decide) ?_
      exact zo_zret hx hb hr hlocks (by simp only [zB]; split <;> simp_all <;> omega) dX9_isYear_19
    · have _ := c_2
      refine lv_iconst (v := iI 1) hx hb dX9_isYear_14 (by decide) ?_
      refine lv_goto (tgt := 19) hx hb dX9_isYear_15 (by decide) ?_
      exact zo_zret hx hb hr hlocks (by simp only [zB]; split <;> simp_all <;> omega) dX9_isYear_19

theorem cd_X9_isMaterial : cd yX9_isMaterial 1 := by decide +kernel
set_option maxHeartbeats 4000000 in
set_option maxRecDepth 100000 in
theorem c_X9_isMaterial (l : Launch) (g : va_G) (τ : Nat → ClassId) (z : Int) (rz : -2147483648 ≤ z ∧ z < 2147483648)  : Met l yX9_isMaterial wsX9_isMaterial { frames := 0, cells := 0, slots := 0, locals := 0 } (va_Pc [Value.int (iI z)] (roW g τ ([]))) (roQ (some (Value.int (iI (zB (decide (0 ≤ z ∧ z < 2))))))) 0 0 nof := by
  refine roMet (cc := cX9_isMaterial) (maxL := 1) (ret := (some .boolean)) (lv := [(0, Value.int (iI z))]) (by decide) rfl (Nat.le_of_ble_eq_true rfl) rfl ?_
  intro p e s m below meth c hx hb hr hml hts hown hlocks hP hK ls hl
  refine lv_iload_n hx hb dX9_isMaterial_0 rfl (lv_at hl 0 rfl) ?_
  refine zi_if_lt (tgt := 13) hx hb ⟨by omega, by omega⟩ dX9_isMaterial_1 (by decide) (fun c_1 => ?_) (fun c_1 => ?_)
  · have _ := c_1
    refine lv_iconst (v := iI 0) hx hb dX9_isMaterial_13 (by decide) ?_
    exact zo_zret hx hb hr hlocks (by simp only [zB]; split <;> simp_all <;> omega) dX9_isMaterial_14
  · have _ := c_1
    refine lv_iload_n hx hb dX9_isMaterial_4 rfl (lv_at hl 0 rfl) ?_
    refine lv_iconst (v := iI 2) hx hb dX9_isMaterial_5 (by decide) ?_
    refine zi_icmp_ge (tgt := 13) hx hb ⟨by omega, by omega⟩ ⟨by decide, by decide⟩ dX9_isMaterial_6 (by decide) (fun c_2 => ?_) (fun c_2 => ?_)
    · have _ := c_2
      refine lv_iconst (v := iI 0) hx hb dX9_isMaterial_13 (by decide) ?_
      exact zo_zret hx hb hr hlocks (by simp only [zB]; split <;> simp_all <;> omega) dX9_isMaterial_14
    · have _ := c_2
      refine lv_iconst (v := iI 1) hx hb dX9_isMaterial_9 (by decide) ?_
      refine lv_goto (tgt := 14) hx hb dX9_isMaterial_10 (by decide) ?_
      exact zo_zret hx hb hr hlocks (by simp only [zB]; split <;> simp_all <;> omega) dX9_isMaterial_14

theorem cd_X9_isBubbles : cd yX9_isBubbles 1 := by decide +kernel
set_option maxHeartbeats 4000000 in
set_option maxRecDepth 100000 in
theorem c_X9_isBubbles (l : Launch) (g : va_G) (τ : Nat → ClassId) (z : Int) (rz : -2147483648 ≤ z ∧ z < 2147483648)  : Met l yX9_isBubbles wsX9_isBubbles { frames := 0, cells := 0, slots := 0, locals := 0 } (va_Pc [Value.int (iI z)] (roW g τ ([]))) (roQ (some (Value.int (iI (zB (decide (0 ≤ z ∧ z ≤ 99))))))) 0 0 nof := by
  refine roMet (cc := cX9_isBubbles) (maxL := 1) (ret := (some .boolean)) (lv := [(0, Value.int (iI z))]) (by decide) rfl (Nat.le_of_ble_eq_true rfl) rfl ?_
  intro p e s m below meth c hx hb hr hml hts hown hlocks hP hK ls hl
  refine lv_iload_n hx hb dX9_isBubbles_0 rfl (lv_at hl 0 rfl) ?_
  refine zi_if_lt (tgt := 14) hx hb ⟨by omega, by omega⟩ dX9_isBubbles_1 (by decide) (fun c_1 => ?_) (fun c_1 => ?_)
  · have _ := c_1
    refine lv_iconst (v := iI 0) hx hb dX9_isBubbles_14 (by decide) ?_
    exact zo_zret hx hb hr hlocks (by simp only [zB]; split <;> simp_all <;> omega) dX9_isBubbles_15
  · have _ := c_1
    refine lv_iload_n hx hb dX9_isBubbles_4 rfl (lv_at hl 0 rfl) ?_
    refine lv_bipush (v := iI 99) hx hb dX9_isBubbles_5 (by decide) ?_
    refine zi_icmp_gt (tgt := 14) hx hb ⟨by omega, by omega⟩ ⟨by decide, by decide⟩ dX9_isBubbles_7 (by decide) (fun c_2 => ?_) (fun c_2 => ?_)
    · have _ := c_2
      refine lv_iconst (v := iI 0) hx hb dX9_isBubbles_14 (by decide) ?_
      exact zo_zret hx hb hr hlocks (by simp only [zB]; split <;> simp_all <;> omega) dX9_isBubbles_15
    · have _ := c_2
      refine lv_iconst (v := iI 1) hx hb dX9_isBubbles_10 (by decide) ?_
      refine lv_goto (tgt := 15) hx hb dX9_isBubbles_11 (by decide) ?_
      exact zo_zret hx hb hr hlocks (by simp only [zB]; split <;> simp_all <;> omega) dX9_isBubbles_15

theorem cd_X9_isCharter : cd yX9_isCharter 1 := by decide +kernel
set_option maxHeartbeats 4000000 in
set_option maxRecDepth 100000 in
theorem c_X9_isCharter (l : Launch) (g : va_G) (τ : Nat → ClassId) (z : Int) (rz : -2147483648 ≤ z ∧ z < 2147483648)  : Met l yX9_isCharter wsX9_isCharter { frames := 0, cells := 0, slots := 0, locals := 0 } (va_Pc [Value.int (iI z)] (roW g τ ([]))) (roQ (some (Value.int (iI (zB (decide (0 ≤ z ∧ z < 6))))))) 0 0 nof := by
  refine roMet (cc := cX9_isCharter) (maxL := 1) (ret := (some .boolean)) (lv := [(0, Value.int (iI z))]) (by decide) rfl (Nat.le_of_ble_eq_true rfl) rfl ?_
  intro p e s m below meth c hx hb hr hml hts hown hlocks hP hK ls hl
  refine lv_iload_n hx hb dX9_isCharter_0 rfl (lv_at hl 0 rfl) ?_
  refine zi_if_lt (tgt := 14) hx hb ⟨by omega, by omega⟩ dX9_isCharter_1 (by decide) (fun c_1 => ?_) (fun c_1 => ?_)
  · have _ := c_1
    refine lv_iconst (v := iI 0) hx hb dX9_isCharter_14 (by decide) ?_
    exact zo_zret hx hb hr hlocks (by simp only [zB]; split <;> simp_all <;> omega) dX9_isCharter_15
  · have _ := c_1
    refine lv_iload_n hx hb dX9_isCharter_4 rfl (lv_at hl 0 rfl) ?_
    refine lv_bipush (v := iI 6) hx hb dX9_isCharter_5 (by decide) ?_
    refine zi_icmp_ge (tgt := 14) hx hb ⟨by omega, by omega⟩ ⟨by decide, by decide⟩ dX9_isCharter_7 (by decide) (fun c_2 => ?_) (fun c_2 => ?_)
    · have _ := c_2
      refine lv_iconst (v := iI 0) hx hb dX9_isCharter_14 (by decide) ?_
      exact zo_zret hx hb hr hlocks (by simp only [zB]; split <;> simp_all <;> omega) dX9_isCharter_15
    · have _ := c_2
      refine lv_iconst (v := iI 1) hx hb dX9_isCharter_10 (by decide) ?_
      refine lv_goto (tgt := 15) hx hb dX9_isCharter_11 (by decide) ?_
      exact zo_zret hx hb hr hlocks (by simp only [zB]; split <;> simp_all <;> omega) dX9_isCharter_15

theorem cd_X9_isShelf : cd yX9_isShelf 1 := by decide +kernel
set_option maxHeartbeats 4000000 in
set_option maxRecDepth 100000 in
theorem c_X9_isShelf (l : Launch) (g : va_G) (τ : Nat → ClassId) (z : Int) (rz : -2147483648 ≤ z ∧ z < 2147483648)  : Met l yX9_isShelf wsX9_isShelf { frames := 0, cells := 0, slots := 0, locals := 0 } (va_Pc [Value.int (iI z)] (roW g τ ([]))) (roQ (some (Value.int (iI (zB (decide (0 ≤ z ∧ z < 6))))))) 0 0 nof := by
  refine roMet (cc := cX9_isShelf) (maxL := 1) (ret := (some .boolean)) (lv := [(0, Value.int (iI z))]) (by decide) rfl (Nat.le_of_ble_eq_true rfl) rfl ?_
  intro p e s m below meth c hx hb hr hml hts hown hlocks hP hK ls hl
  refine lv_iload_n hx hb dX9_isShelf_0 rfl (lv_at hl 0 rfl) ?_
  refine zi_if_lt (tgt := 14) hx hb ⟨by omega, by omega⟩ dX9_isShelf_1 (by decide) (fun c_1 => ?_) (fun c_1 => ?_)
  · have _ := c_1
    refine lv_iconst (v := iI 0) hx hb dX9_isShelf_14 (by decide) ?_
    exact zo_zret hx hb hr hlocks (by simp only [zB]; split <;> simp_all <;> omega) dX9_isShelf_15
  · have _ := c_1
    refine lv_iload_n hx hb dX9_isShelf_4 rfl (lv_at hl 0 rfl) ?_
    refine lv_bipush (v := iI 6) hx hb dX9_isShelf_5 (by decide) ?_
    refine zi_icmp_ge (tgt := 14) hx hb ⟨by omega, by omega⟩ ⟨by decide, by decide⟩ dX9_isShelf_7 (by decide) (fun c_2 => ?_) (fun c_2 => ?_)
    · have _ := c_2
      refine lv_iconst (v := iI 0) hx hb dX9_isShelf_14 (by decide) ?_
      exact zo_zret hx hb hr hlocks (by simp only [zB]; split <;> simp_all <;> omega) dX9_isShelf_15
    · have _ := c_2
      refine lv_iconst (v := iI 1) hx hb dX9_isShelf_10 (by decide) ?_
      refine lv_goto (tgt := 15) hx hb dX9_isShelf_11 (by decide) ?_
      exact zo_zret hx hb hr hlocks (by simp only [zB]; split <;> simp_all <;> omega) dX9_isShelf_15

theorem cd_X9_isSlot : cd yX9_isSlot 1 := by decide +kernel
set_option maxHeartbeats 4000000 in
set_option maxRecDepth 100000 in
theorem c_X9_isSlot (l : Launch) (g : va_G) (τ : Nat → ClassId) (z : Int) (rz : -2147483648 ≤ z ∧ z < 2147483648)  : Met l yX9_isSlot wsX9_isSlot { frames := 0, cells := 0, slots := 0, locals := 0 } (va_Pc [Value.int (iI z)] (roW g τ ([]))) (roQ (some (Value.int (iI (zB (decide (0 ≤ z ∧ z < 2))))))) 0 0 nof := by
  refine roMet (cc := cX9_isSlot) (maxL := 1) (ret := (some .boolean)) (lv := [(0, Value.int (iI z))]) (by decide) rfl (Nat.le_of_ble_eq_true rfl) rfl ?_
  intro p e s m below meth c hx hb hr hml hts hown hlocks hP hK ls hl
  refine lv_iload_n hx hb dX9_isSlot_0 rfl (lv_at hl 0 rfl) ?_
  refine zi_if_lt (tgt := 13) hx hb ⟨by omega, by omega⟩ dX9_isSlot_1 (by decide) (fun c_1 => ?_) (fun c_1 => ?_)
  · have _ := c_1
    refine lv_iconst (v := iI 0) hx hb dX9_isSlot_13 (by decide) ?_
    exact zo_zret hx hb hr hlocks (by simp only [zB]; split <;> simp_all <;> omega) dX9_isSlot_14
  · have _ := c_1
    refine lv_iload_n hx hb dX9_isSlot_4 rfl (lv_at hl 0 rfl) ?_
    refine lv_iconst (v := iI 2) hx hb dX9_isSlot_5 (by decide) ?_
    refine zi_icmp_ge (tgt := 13) hx hb ⟨by omega, by omega⟩ ⟨by decide, by decide⟩ dX9_isSlot_6 (by decide) (fun c_2 => ?_) (fun c_2 => ?_)
    · have _ := c_2
      refine lv_iconst (v := iI 0) hx hb dX9_isSlot_13 (by decide) ?_
      exact zo_zret hx hb hr hlocks (by simp only [zB]; split <;> simp_all <;> omega) dX9_isSlot_14
    · have _ := c_2
      refine lv_iconst (v := iI 1) hx hb dX9_isSlot_9 (by decide) ?_
      refine lv_goto (tgt := 14) hx hb dX9_isSlot_10 (by decide) ?_
      exact zo_zret hx hb hr hlocks (by simp only [zB]; split <;> simp_all <;> omega) dX9_isSlot_14

theorem cd_X0_hasCracks : cd yX0_hasCracks 2 := by decide +kernel
theorem in_X0_hasCracks_X0 : ∀ w ∈ wsX00, w ∈ wsX0_hasCracks := by decide +kernel
set_option maxHeartbeats 4000000 in
set_option maxRecDepth 100000 in
theorem c_X0_hasCracks (l : Launch) (g : va_G) (τ : Nat → ClassId) (ad : Nat → Nat) (R : Nat → Nat → Int) (hB : ∀ k j, -1 ≤ R k j ∧ R k j < 65536) (d mm : Nat) (hd : d < 10) (hm : mm ≤ 4) (hM : R 8 d = (mm : Int)) (x : Int) (rx : -2147483648 ≤ x ∧ x < 2147483648)  : Met l yX0_hasCracks wsX0_hasCracks { frames := 0, cells := 0, slots := 0, locals := 0 } (va_Pc [Value.ref (ad 4), Value.int (iI (d : Int)), Value.int (iI x)] (roW g τ (dsW ad R τ))) (roQ (some (Value.int (iI (zB (decide (0 ≤ x ∧ x < (2 : Int) ^ mm))))))) 0 0 nof := by
  have hp := pow_r hm
  refine roMet (cc := cX0_hasCracks) (maxL := 3) (ret := (some .boolean)) (lv := [(0, Value.ref (ad 4)), (1, Value.int (iI (d : Int))), (2, Value.int (iI x))]) (by decide) rfl (Nat.le_of_ble_eq_true rfl) rfl ?_
  intro p e s m below meth c hx hb hr hml hts hown hlocks hP hK ls hl
  refine lv_iload_n hx hb dX0_hasCracks_0 rfl (lv_at hl 2 rfl) ?_
  refine zi_if_lt (tgt := 20) hx hb ⟨by omega, by omega⟩ dX0_hasCracks_1 (by decide) (fun c_1 => ?_) (fun c_1 => ?_)
  · have _ := c_1
    refine lv_iconst (v := iI 0) hx hb dX0_hasCracks_20 (by decide) ?_
    exact zo_zret hx hb hr hlocks (by simp only [zB]; split <;> simp_all <;> omega) dX0_hasCracks_21
  · have _ := c_1
    refine lv_iload_n hx hb dX0_hasCracks_4 rfl (lv_at hl 2 rfl) ?_
    refine lv_iconst (v := iI 1) hx hb dX0_hasCracks_5 (by decide) ?_
    refine lv_aload_n hx hb dX0_hasCracks_6 rfl (lv_at hl 0 rfl) ?_
    refine va_get (D := g) (ci := 0) (v := Value.ref (ad 8)) (C := RX0) (T := TX0) (N := 6) hx hb hts in_X0_hasCracks_X0 hown hK.1 hP 0 (rfl) rfl 4 (by decide) (hts _ (List.mem_of_getElem? (i := 1) rfl) : (Cond.fieldLink RX0 21 "CordSeals$Dies" "cracks" "[I").before _ s = true) (fun _ h9 => h9) rfl dX0_hasCracks_7 ?_
    refine lv_iload_n hx hb dX0_hasCracks_10 rfl (lv_at hl 1 rfl) ?_
    refine zi_ald hx hb hK hP 4 (f := (R 8)) (rfl) (d) (rfl) (by omega) (by decide) dX0_hasCracks_11 ?_
    have hb_2 := hB 8 d
    refine zi_shl1 (mm) (by omega) (by omega) hx hb dX0_hasCracks_12 ?_
    refine zi_icmp_ge (tgt := 20) hx hb ⟨by omega, by omega⟩ ⟨by omega, by omega⟩ dX0_hasCracks_13 (by decide) (fun c_3 => ?_) (fun c_3 => ?_)
    · have _ := c_3
      refine lv_iconst (v := iI 0) hx hb dX0_hasCracks_20 (by decide) ?_
      exact zo_zret hx hb hr hlocks (by simp only [zB]; split <;> simp_all <;> omega) dX0_hasCracks_21
    · have _ := c_3
      refine lv_iconst (v := iI 1) hx hb dX0_hasCracks_16 (by decide) ?_
      refine lv_goto (tgt := 21) hx hb dX0_hasCracks_17 (by decide) ?_
      exact zo_zret hx hb hr hlocks (by simp only [zB]; split <;> simp_all <;> omega) dX0_hasCracks_21

theorem cd_X6_addReign : cd yX6_addReign 2 := by decide +kernel
theorem in_X6_addReign_X3 : ∀ w ∈ wsX30, w ∈ wsX6_addReign := by decide +kernel
theorem in_X6_addReign_X6 : ∀ w ∈ wsX60, w ∈ wsX6_addReign := by decide +kernel
set_option maxHeartbeats 4000000 in
set_option maxRecDepth 100000 in
theorem c_X6_addReign (l : Launch) (g : va_G) (τ : Nat → ClassId) (ad : Nat → Nat) (R : Nat → Nat → Int) (hI : SI R) (y : Int) (ry : -2147483648 ≤ y ∧ y < 2147483648) (q : Int) (rq : -2147483648 ≤ q ∧ q < 2147483648)  : Met l yX6_addReign wsX6_addReign { frames := 1, cells := 0, slots := 0, locals := 21 } (va_Pc [Value.ref (ad 0), Value.int (iI y), Value.int (iI q)] (rwW g τ (stW ad R τ))) (rwQ g (fun v w => v = some (Value.int (iI (aReign R y q).1)) ∧ w = stW ad (aReign R y q).2 τ) (inW (stW ad R τ))) 0 0 (inW (stW ad R τ)) := by
  have hB := hI.hB
  have hr0 := hI.r
  have hd0 := hI.d
  have hs0 := hI.s
  refine rwMet (cc := cX6_addReign) (maxL := 3) (ret := (some .int)) (lv := [(0, Value.ref (ad 0)), (1, Value.int (iI y)), (2, Value.int (iI q))]) (by decide) rfl (Nat.le_of_ble_eq_true rfl) rfl ?_
  intro p e s m below meth c hx hb hr hml hts hown hlocks A H hP hD hS hK ls hl
  refine lv_iload_n hx hb dX6_addReign_0 rfl (lv_at hl 1 rfl) ?_
  refine ro_SN (As := [Value.int (iI y)]) (rest := []) (v := some (Value.int (iI (zB (decide (1000 ≤ y ∧ y ≤ 1999)))))) ⟨hx, hb, hml, hown, hts⟩ (c_X9_isYear l g τ y ⟨by omega, by omega⟩) gX6_addReign_X9_isYear_n116 cd_X9_isYear rfl ⟨rfl, rfl⟩ ⟨Nat.le_of_ble_eq_true rfl, Nat.le_of_ble_eq_true rfl⟩ hK (by decide +kernel) (List.mem_of_getElem? (i := 6) rfl) (List.mem_of_getElem? (i := 5) rfl) (fun _ _ h => by cases h) rfl hl rfl (Nat.le_of_ble_eq_true rfl) dX6_addReign_1 ⟨Nat.le_of_ble_eq_true rfl, Nat.le_of_ble_eq_true rfl⟩ ?_
  refine tl_some ?_
  refine zb_if_eq (tgt := 19) hx hb dX6_addReign_4 (by decide) (fun c_1 => ?_) (fun c_1 => ?_)
  · have cd_c_1 := of_decide_eq_false c_1
    refine lv_bipush (v := iI (-3)) hx hb dX6_addReign_19 (by decide) ?_
    exact rw_iret hx hb hr hlocks hP hS (by unfold aReign; (repeat' split) <;> first | (exact ⟨rfl, rfl⟩) | (exfalso; omega) | (exfalso; simp_all; done) | (exfalso; simp_all; omega)) dX6_addReign_21
  · have cd_c_1 := of_decide_eq_true c_1
    refine lv_iload_n hx hb dX6_addReign_7 rfl (lv_at hl 2 rfl) ?_
    refine lv_iconst (v := iI 1) hx hb dX6_addReign_8 (by decide) ?_
    refine zi_icmp_lt (tgt := 19) hx hb ⟨by omega, by omega⟩ ⟨by decide, by decide⟩ dX6_addReign_9 (by decide) (fun c_2 => ?_) (fun c_2 => ?_)
    · have _ := c_2
      refine lv_bipush (v := iI (-3)) hx hb dX6_addReign_19 (by decide) ?_
      exact rw_iret hx hb hr hlocks hP hS (by unfold aReign; (repeat' split) <;> first | (exact ⟨rfl, rfl⟩) | (exfalso; omega) | (exfalso; simp_all; done) | (exfalso; simp_all; omega)) dX6_addReign_21
    · have _ := c_2
      refine lv_iload_n hx hb dX6_addReign_12 rfl (lv_at hl 2 rfl) ?_
      refine lv_sipush (v := iI 256) hx hb dX6_addReign_13 (by decide) ?_
      refine zi_icmp_lt (tgt := 22) hx hb ⟨by omega, by omega⟩ ⟨by decide, by decide⟩ dX6_addReign_16 (by decide) (fun c_3 => ?_) (fun c_3 => ?_)
      · have _ := c_3
        refine lv_aload_n hx hb dX6_addReign_22 rfl (lv_at hl 0 rfl) ?_
        refine va_get (D := g) (ci := 6) (v := Value.ref (ad 1)) (C := RX6) (T := TX6) (N := 5) hx hb hts in_X6_addReign_X6 hown hK.1 hP 0 (rfl) rfl 0 (by decide) (hts _ (List.mem_of_getElem? (i := 1) rfl) : (Cond.fieldLink RX6 12 "CordSeals$State" "reigns" "LCordSeals$Reigns;").before _ s = true) (fun _ h9 => h9) rfl dX6_addReign_23 ?_
        refine va_get (D := g) (ci := 3) (v := Value.int (iI (R 1 0))) (C := RX3) (T := TX3) (N := 3) hx hb hts in_X6_addReign_X3 hown hK.1 hP 1 (rfl) rfl 0 (by decide) (hts _ (List.mem_of_getElem? (i := 2) rfl) : (Cond.fieldLink RX6 46 "CordSeals$Reigns" "count" "I").before _ s = true) (fun _ h9 => h9) rfl dX6_addReign_26 ?_
        have hb_4 := hB 1 0
        refine lv_bipush (v := iI 10) hx hb dX6_addReign_29 (by decide) ?_
        refine zi_icmp_ge (tgt := 45) hx hb ⟨by omega, by omega⟩ ⟨by decide, by decide⟩ dX6_addReign_31 (by decide) (fun c_5 => ?_) (fun c_5 => ?_)
        · have _ := c_5
          refine lv_bipush (v := iI (-4)) hx hb dX6_addReign_45 (by decide) ?_
          exact rw_iret hx hb hr hlocks hP hS (by unfold aReign; (repeat' split) <;> first | (exact ⟨rfl, rfl⟩) | (exfalso; omega) | (exfalso; simp_all; done) | (exfalso; simp_all; omega)) dX6_addReign_47
        · have _ := c_5
          refine lv_aload_n hx hb dX6_addReign_34 rfl (lv_at hl 0 rfl) ?_
          refine va_get (D := g) (ci := 6) (v := Value.ref (ad 1)) (C := RX6) (T := TX6) (N := 5) hx hb hts in_X6_addReign_X6 hown hK.1 hP 0 (rfl) rfl 0 (by decide) (hts _ (List.mem_of_getElem? (i := 1) rfl) : (Cond.fieldLink RX6 12 "CordSeals$State" "reigns" "LCordSeals$Reigns;").before _ s = true) (fun _ h9 => h9) rfl dX6_addReign_35 ?_
          refine lv_iload_n hx hb dX6_addReign_38 rfl (lv_at hl 1 rfl) ?_
          refine ro_V (As := [Value.int (iI y)]) (rest := []) (v := some (Value.int (iI (zB (kBehind R (R 1 0).toNat y))))) ⟨hx, hb, hml, hown, hts⟩ (c_X3_isBehindAll l g τ ad R hB (R 1 0).toNat (by omega) (by omega) y ⟨by omega, by omega⟩) gX6_addReign_X3_isBehindAll cd_X3_isBehindAll rfl rfl ⟨rfl, rfl⟩ ⟨Nat.le_of_ble_eq_true rfl, Nat.le_of_ble_eq_true rfl⟩ hK (hP.sub [1, 2, 3] rfl) 0 rfl rfl rfl rfl hl rfl (Nat.le_of_ble_eq_true rfl) dX6_addReign_39 ⟨Nat.le_of_ble_eq_true rfl, Nat.le_of_ble_eq_true rfl⟩ ?_
          refine tl_some ?_
          refine zb_if_ne (tgt := 48) hx hb dX6_addReign_42 (by decide) (fun c_6 => ?_) (fun c_6 => ?_)
          · have _ := c_6
            refine lv_aload_n hx hb dX6_addReign_48 rfl (lv_at hl 0 rfl) ?_
            refine va_get (D := g) (ci := 6) (v := Value.ref (ad 1)) (C := RX6) (T := TX6) (N := 5) hx hb hts in_X6_addReign_X6 hown hK.1 hP 0 (rfl) rfl 0 (by decide) (hts _ (List.mem_of_getElem? (i := 1) rfl) : (Cond.fieldLink RX6 12 "CordSeals$State" "reigns" "LCordSeals$Reigns;").before _ s = true) (fun _ h9 => h9) rfl dX6_addReign_49 ?_
            refine va_get (D := g) (ci := 3) (v := Value.ref (ad 2)) (C := RX3) (T := TX3) (N := 3) hx hb hts in_X6_addReign_X3 hown hK.1 hP 1 (rfl) rfl 1 (by decide) (hts _ (List.mem_of_getElem? (i := 3) rfl) : (Cond.fieldLink RX6 123 "CordSeals$Reigns" "begin" "[I").before _ s = true) (fun _ h9 => h9) rfl dX6_addReign_52 ?_
            refine lv_aload_n hx hb dX6_addReign_55 rfl (lv_at hl 0 rfl) ?_
            refine va_get (D := g) (ci := 6) (v := Value.ref (ad 1)) (C := RX6) (T := TX6) (N := 5) hx hb hts in_X6_addReign_X6 hown hK.1 hP 0 (rfl) rfl 0 (by decide) (hts _ (List.mem_of_getElem? (i := 1) rfl) : (Cond.fieldLink RX6 12 "CordSeals$State" "reigns" "LCordSeals$Reigns;").before _ s = true) (fun _ h9 => h9) rfl dX6_addReign_56 ?_
            refine va_get (D := g) (ci := 3) (v := Value.int (iI (R 1 0))) (C := RX3) (T := TX3) (N := 3) hx hb hts in_X6_addReign_X3 hown hK.1 hP 1 (rfl) rfl 0 (by decide) (hts _ (List.mem_of_getElem? (i := 2) rfl) : (Cond.fieldLink RX6 46 "CordSeals$Reigns" "count" "I").before _ s = true) (fun _ h9 => h9) rfl dX6_addReign_59 ?_
            have hb_7 := hB 1 0
            refine lv_iload_n hx hb dX6_addReign_62 rfl (lv_at hl 1 rfl) ?_
            refine zi_ast hx hb hK hP hD hS 2 (f := (R 2)) (rfl) ((R 1 0).toNat) (by omega) (by omega) (by decide) dX6_addReign_63 (wo := stW ad (u2 R 2 (updZ (R 2) ((R 1 0).toNat) y)) τ) rfl (fun H locs hP hD hS => ?_)
            refine lv_aload_n hx hb dX6_addReign_64 rfl (lv_at hl 0 rfl) ?_
            refine va_get (D := g) (ci := 6) (v := Value.ref (ad 1)) (C := RX6) (T := TX6) (N := 5) hx hb hts in_X6_addReign_X6 hown hK.1 hP 0 (rfl) rfl 0 (by decide) (hts _ (List.mem_of_getElem? (i := 1) rfl) : (Cond.fieldLink RX6 12 "CordSeals$State" "reigns" "LCordSeals$Reigns;").before _ s = true) (fun _ h9 => h9) rfl dX6_addReign_65 ?_
            refine va_get (D := g) (ci := 3) (v := Value.ref (ad 3)) (C := RX3) (T := TX3) (N := 3) hx hb hts in_X6_addReign_X3 hown hK.1 hP 1 (rfl) rfl 2 (by decide) (hts _ (List.mem_of_getElem? (i := 4) rfl) : (Cond.fieldLink RX6 126 "CordSeals$Reigns" "colours" "[I").before _ s = true) (fun _ h9 => h9) rfl dX6_addReign_68 ?_
            refine lv_aload_n hx hb dX6_addReign_71 rfl (lv_at hl 0 rfl) ?_
            refine va_get (D := g) (ci := 6) (v := Value.ref (ad 1)) (C := RX6) (T := TX6) (N := 5) hx hb hts in_X6_addReign_X6 hown hK.1 hP 0 (rfl) rfl 0 (by decide) (hts _ (List.mem_of_getElem? (i := 1) rfl) : (Cond.fieldLink RX6 12 "CordSeals$State" "reigns" "LCordSeals$Reigns;").before _ s = true) (fun _ h9 => h9) rfl dX6_addReign_72 ?_
            refine va_get (D := g) (ci := 3) (v := Value.int (iI (R 1 0))) (C := RX3) (T := TX3) (N := 3) hx hb hts in_X6_addReign_X3 hown hK.1 hP 1 (rfl) rfl 0 (by decide) (hts _ (List.mem_of_getElem? (i := 2) rfl) : (Cond.fieldLink RX6 46 "CordSeals$Reigns" "count" "I").before _ s = true) (fun _ h9 => h9) rfl dX6_addReign_75 ?_
            have hb_8 := hB 1 0
            refine lv_iload_n hx hb dX6_addReign_78 rfl (lv_at hl 2 rfl) ?_
            refine zi_ast hx hb hK hP hD hS 3 (f := (R 3)) (rfl) ((R 1 0).toNat) (by omega) (by omega) (by decide) dX6_addReign_79 (wo := stW ad (u2 (u2 R 2 (updZ (R 2) ((R 1 0).toNat) y)) 3 (updZ (R 3) ((R 1 0).toNat) q)) τ) rfl (fun H locs hP hD hS => ?_)
            refine lv_aload_n hx hb dX6_addReign_80 rfl (lv_at hl 0 rfl) ?_
            refine va_get (D := g) (ci := 6) (v := Value.ref (ad 1)) (C := RX6) (T := TX6) (N := 5) hx hb hts in_X6_addReign_X6 hown hK.1 hP 0 (rfl) rfl 0 (by decide) (hts _ (List.mem_of_getElem? (i := 1) rfl) : (Cond.fieldLink RX6 12 "CordSeals$State" "reigns" "LCordSeals$Reigns;").before _ s = true) (fun _ h9 => h9) rfl dX6_addReign_81 ?_
            refine lv_dup hx hb dX6_addReign_84 rfl ?_
            refine va_get (D := g) (ci := 3) (v := Value.int (iI (R 1 0))) (C := RX3) (T := TX3) (N := 3) hx hb hts in_X6_addReign_X3 hown hK.1 hP 1 (rfl) rfl 0 (by decide) (hts _ (List.mem_of_getElem? (i := 2) rfl) : (Cond.fieldLink RX6 46 "CordSeals$Reigns" "count" "I").before _ s = true) (fun _ h9 => h9) rfl dX6_addReign_85 ?_
            have hb_9 := hB 1 0
            refine lv_dup_x1 hx hb dX6_addReign_88 rfl rfl ?_
            refine lv_iconst (v := iI 1) hx hb dX6_addReign_89 (by decide) ?_
            refine zi_add hx hb dX6_addReign_90 ?_
            refine va_put (D := g) (ci := 3) (v := Value.int (iI ((R 1 0) + 1))) (ty := .int) (C := RX3) (T := TX3) (N := 3) hx hb hts in_X6_addReign_X3 tyX3 tyX3_ok nmX3 hown hK.1 hP hD hS 1 (rfl) rfl 0 (by decide) (hts _ (List.mem_of_getElem? (i := 2) rfl) : (Cond.fieldLink RX6 46 "CordSeals$Reigns" "count" "I").before _ s = true) (fun _ h9 => h9) rfl (by decide +kernel) rfl rfl (Nat.le_of_ble_eq_true rfl) dX6_addReign_91 (fun H locs hP hD hS => ?_)
            have hP : va_P g vwCl (stW ad (u2 (u2 (u2 R 2 (updZ (R 2) ((R 1 0).toNat) y)) 3 (updZ (R 3) ((R 1 0).toNat) q)) 1 (fun _ => (R 1 0) + 1)) τ) H := hP
            have hD : va_D A (stW ad (u2 (u2 (u2 R 2 (updZ (R 2) ((R 1 0).toNat) y)) 3 (updZ (R 3) ((R 1 0).toNat) q)) 1 (fun _ => (R 1 0) + 1)) τ) := hD
            exact rw_iret hx hb hr hlocks hP hS (by unfold aReign; (repeat' split) <;> first | (exact ⟨rfl, rfl⟩) | (exfalso; omega) | (exfalso; simp_all; done) | (exfalso; simp_all; omega)) dX6_addReign_94
          · have _ := c_6
            refine lv_bipush (v := iI (-4)) hx hb dX6_addReign_45 (by decide) ?_
            exact rw_iret hx hb hr hlocks hP hS (by unfold aReign; (repeat' split) <;> first | (exact ⟨rfl, rfl⟩) | (exfalso; omega) | (exfalso; simp_all; done) | (exfalso; simp_all; omega)) dX6_addReign_47
      · have _ := c_3
        refine lv_bipush (v := iI (-3)) hx hb dX6_addReign_19 (by decide) ?_
        exact rw_iret hx hb hr hlocks hP hS (by unfold aReign; (repeat' split) <;> first | (exact ⟨rfl, rfl⟩) | (exfalso; omega) | (exfalso; simp_all; done) | (exfalso; simp_all; omega)) dX6_addReign_21

theorem cd_X6_addDie : cd yX6_addDie 3 := by decide +kernel
theorem in_X6_addDie_X0 : ∀ w ∈ wsX00, w ∈ wsX6_addDie := by decide +kernel
theorem in_X6_addDie_X6 : ∀ w ∈ wsX60, w ∈ wsX6_addDie := by decide +kernel
set_option maxHeartbeats 4000000 in
set_option maxRecDepth 100000 in
theorem c_X6_addDie (l : Launch) (g : va_G) (τ : Nat → ClassId) (ad : Nat → Nat) (R : Nat → Nat → Int) (hI : SI R) (h : Int) (rh : -2147483648 ≤ h ∧ h < 2147483648) (a : Int) (ra : -2147483648 ≤ a ∧ a < 2147483648) (b : Int) (rb : -2147483648 ≤ b ∧ b < 2147483648)  : Met l yX6_addDie wsX6_addDie { frames := 1, cells := 0, slots := 0, locals := 20 } (va_Pc [Value.ref (ad 0), Value.int (iI h), Value.int (iI a), Value.int (iI b)] (rwW g τ (stW ad R τ))) (rwQ g (fun v w => v = some (Value.int (iI (aDie R h a b).1)) ∧ w = stW ad (aDie R h a b).2 τ) (inW (stW ad R τ))) 0 0 (inW (stW ad R τ)) := by
  have hB := hI.hB
  have hr0 := hI.r
  have hd0 := hI.d
  have hs0 := hI.s
  refine rwMet (cc := cX6_addDie) (maxL := 4) (ret := (some .int)) (lv := [(0, Value.ref (ad 0)), (1, Value.int (iI h)), (2, Value.int (iI a)), (3, Value.int (iI b))]) (by decide) rfl (Nat.le_of_ble_eq_true rfl) rfl ?_
  intro p e s m below meth c hx hb hr hml hts hown hlocks A H hP hD hS hK ls hl
  refine lv_iload_n hx hb dX6_addDie_0 rfl (lv_at hl 1 rfl) ?_
  refine zi_if_lt (tgt := 29) hx hb ⟨by omega, by omega⟩ dX6_addDie_1 (by decide) (fun c_1 => ?_) (fun c_1 => ?_)
  · have _ := c_1
    refine lv_bipush (v := iI (-3)) hx hb dX6_addDie_29 (by decide) ?_
    exact rw_iret hx hb hr hlocks hP hS (by unfold aDie; (repeat' split) <;> first | (exact ⟨rfl, rfl⟩) | (exfalso; omega) | (exfalso; simp_all; done) | (exfalso; simp_all; omega)) dX6_addDie_31
  · have _ := c_1
    refine lv_iload_n hx hb dX6_addDie_4 rfl (lv_at hl 1 rfl) ?_
    refine lv_bipush (v := iI 6) hx hb dX6_addDie_5 (by decide) ?_
    refine zi_icmp_ge (tgt := 29) hx hb ⟨by omega, by omega⟩ ⟨by decide, by decide⟩ dX6_addDie_7 (by decide) (fun c_2 => ?_) (fun c_2 => ?_)
    · have _ := c_2
      refine lv_bipush (v := iI (-3)) hx hb dX6_addDie_29 (by decide) ?_
      exact rw_iret hx hb hr hlocks hP hS (by unfold aDie; (repeat' split) <;> first | (exact ⟨rfl, rfl⟩) | (exfalso; omega) | (exfalso; simp_all; done) | (exfalso; simp_all; omega)) dX6_addDie_31
    · have _ := c_2
      refine lv_iload_n hx hb dX6_addDie_10 rfl (lv_at hl 2 rfl) ?_
      refine ro_SN (As := [Value.int (iI a)]) (rest := []) (v := some (Value.int (iI (zB (decide (1000 ≤ a ∧ a ≤ 1999)))))) ⟨hx, hb, hml, hown, hts⟩ (c_X9_isYear l g τ a ⟨by omega, by omega⟩) gX6_addDie_X9_isYear_n116 cd_X9_isYear rfl ⟨rfl, rfl⟩ ⟨Nat.le_of_ble_eq_true rfl, Nat.le_of_ble_eq_true rfl⟩ hK (by decide +kernel) (List.mem_of_getElem? (i := 8) rfl) (List.mem_of_getElem? (i := 7) rfl) (fun _ _ h => by cases h) rfl hl rfl (Nat.le_of_ble_eq_true rfl) dX6_addDie_11 ⟨Nat.le_of_ble_eq_true rfl, Nat.le_of_ble_eq_true rfl⟩ ?_
      refine tl_some ?_
      refine zb_if_eq (tgt := 29) hx hb dX6_addDie_14 (by decide) (fun c_3 => ?_) (fun c_3 => ?_)
      · have cd_c_3 := of_decide_eq_false c_3
        refine lv_bipush (v := iI (-3)) hx hb dX6_addDie_29 (by decide) ?_
        exact rw_iret hx hb hr hlocks hP hS (by unfold aDie; (repeat' split) <;> first | (exact ⟨rfl, rfl⟩) | (exfalso; omega) | (exfalso; simp_all; done) | (exfalso; simp_all; omega)) dX6_addDie_31
      · have cd_c_3 := of_decide_eq_true c_3
        refine lv_iload_n hx hb dX6_addDie_17 rfl (lv_at hl 3 rfl) ?_
        refine ro_SN (As := [Value.int (iI b)]) (rest := []) (v := some (Value.int (iI (zB (decide (1000 ≤ b ∧ b ≤ 1999)))))) ⟨hx, hb, hml, hown, hts⟩ (c_X9_isYear l g τ b ⟨by omega, by omega⟩) gX6_addDie_X9_isYear_n116 cd_X9_isYear rfl ⟨rfl, rfl⟩ ⟨Nat.le_of_ble_eq_true rfl, Nat.le_of_ble_eq_true rfl⟩ hK (by decide +kernel) (List.mem_of_getElem? (i := 8) rfl) (List.mem_of_getElem? (i := 7) rfl) (fun _ _ h => by cases h) rfl hl rfl (Nat.le_of_ble_eq_true rfl) dX6_addDie_18 ⟨Nat.le_of_ble_eq_true rfl, Nat.le_of_ble_eq_true rfl⟩ ?_
        refine tl_some ?_
        refine zb_if_eq (tgt := 29) hx hb dX6_addDie_21 (by decide) (fun c_4 => ?_) (fun c_4 => ?_)
        · have cd_c_4 := of_decide_eq_false c_4
          refine lv_bipush (v := iI (-3)) hx hb dX6_addDie_29 (by decide) ?_
          exact rw_iret hx hb hr hlocks hP hS (by unfold aDie; (repeat' split) <;> first | (exact ⟨rfl, rfl⟩) | (exfalso; omega) | (exfalso; simp_all; done) | (exfalso; simp_all; omega)) dX6_addDie_31
        · have cd_c_4 := of_decide_eq_true c_4
          refine lv_iload_n hx hb dX6_addDie_24 rfl (lv_at hl 3 rfl) ?_
          refine lv_iload_n hx hb dX6_addDie_25 rfl (lv_at hl 2 rfl) ?_
          refine zi_icmp_ge (tgt := 32) hx hb ⟨by omega, by omega⟩ ⟨by omega, by omega⟩ dX6_addDie_26 (by decide) (fun c_5 => ?_) (fun c_5 => ?_)
          · have _ := c_5
            refine lv_aload_n hx hb dX6_addDie_32 rfl (lv_at hl 0 rfl) ?_
            refine va_get (D := g) (ci := 6) (v := Value.ref (ad 4)) (C := RX6) (T := TX6) (N := 5) hx hb hts in_X6_addDie_X6 hown hK.1 hP 0 (rfl) rfl 1 (by decide) (hts _ (List.mem_of_getElem? (i := 1) rfl) : (Cond.fieldLink RX6 21 "CordSeals$State" "dies" "LCordSeals$Dies;").before _ s = true) (fun _ h9 => h9) rfl dX6_addDie_33 ?_
            refine va_get (D := g) (ci := 0) (v := Value.int (iI (R 4 0))) (C := RX0) (T := TX0) (N := 6) hx hb hts in_X6_addDie_X0 hown hK.1 hP 4 (rfl) rfl 0 (by decide) (hts _ (List.mem_of_getElem? (i := 2) rfl) : (Cond.fieldLink RX6 50 "CordSeals$Dies" "count" "I").before _ s = true) (fun _ h9 => h9) rfl dX6_addDie_36 ?_
            have hb_6 := hB 4 0
            refine lv_bipush (v := iI 10) hx hb dX6_addDie_39 (by decide) ?_
            refine zi_icmp_lt (tgt := 47) hx hb ⟨by omega, by omega⟩ ⟨by decide, by decide⟩ dX6_addDie_41 (by decide) (fun c_7 => ?_) (fun c_7 => ?_)
            · have _ := c_7
              refine lv_aload_n hx hb dX6_addDie_47 rfl (lv_at hl 0 rfl) ?_
              refine va_get (D := g) (ci := 6) (v := Value.ref (ad 4)) (C := RX6) (T := TX6) (N := 5) hx hb hts in_X6_addDie_X6 hown hK.1 hP 0 (rfl) rfl 1 (by decide) (hts _ (List.mem_of_getElem? (i := 1) rfl) : (Cond.fieldLink RX6 21 "CordSeals$State" "dies" "LCordSeals$Dies;").before _ s = true) (fun _ h9 => h9) rfl dX6_addDie_48 ?_
              refine va_get (D := g) (ci := 0) (v := Value.ref (ad 5)) (C := RX0) (T := TX0) (N := 6) hx hb hts in_X6_addDie_X0 hown hK.1 hP 4 (rfl) rfl 1 (by decide) (hts _ (List.mem_of_getElem? (i := 3) rfl) : (Cond.fieldLink RX6 129 "CordSeals$Dies" "house" "[I").before _ s = true) (fun _ h9 => h9) rfl dX6_addDie_51 ?_
              refine lv_aload_n hx hb dX6_addDie_54 rfl (lv_at hl 0 rfl) ?_
              refine va_get (D := g) (ci := 6) (v := Value.ref (ad 4)) (C := RX6) (T := TX6) (N := 5) hx hb hts in_X6_addDie_X6 hown hK.1 hP 0 (rfl) rfl 1 (by decide) (hts _ (List.mem_of_getElem? (i := 1) rfl) : (Cond.fieldLink RX6 21 "CordSeals$State" "dies" "LCordSeals$Dies;").before _ s = true) (fun _ h9 => h9) rfl dX6_addDie_55 ?_
              refine va_get (D := g) (ci := 0) (v := Value.int (iI (R 4 0))) (C := RX0) (T := TX0) (N := 6) hx hb hts in_X6_addDie_X0 hown hK.1 hP 4 (rfl) rfl 0 (by decide) (hts _ (List.mem_of_getElem? (i := 2) rfl) : (Cond.fieldLink RX6 50 "CordSeals$Dies" "count" "I").before _ s = true) (fun _ h9 => h9) rfl dX6_addDie_58 ?_
              have hb_8 := hB 4 0
              refine lv_iload_n hx hb dX6_addDie_61 rfl (lv_at hl 1 rfl) ?_
              refine zi_ast hx hb hK hP hD hS 5 (f := (R 5)) (rfl) ((R 4 0).toNat) (by omega) (by omega) (by decide) dX6_addDie_62 (wo := stW ad (u2 R 5 (updZ (R 5) ((R 4 0).toNat) h)) τ) rfl (fun H locs hP hD hS => ?_)
              refine lv_aload_n hx hb dX6_addDie_63 rfl (lv_at hl 0 rfl) ?_
              refine va_get (D := g) (ci := 6) (v := Value.ref (ad 4)) (C := RX6) (T := TX6) (N := 5) hx hb hts in_X6_addDie_X6 hown hK.1 hP 0 (rfl) rfl 1 (by decide) (hts _ (List.mem_of_getElem? (i := 1) rfl) : (Cond.fieldLink RX6 21 "CordSeals$State" "dies" "LCordSeals$Dies;").before _ s = true) (fun _ h9 => h9) rfl dX6_addDie_64 ?_
              refine va_get (D := g) (ci := 0) (v := Value.ref (ad 6)) (C := RX0) (T := TX0) (N := 6) hx hb hts in_X6_addDie_X0 hown hK.1 hP 4 (rfl) rfl 2 (by decide) (hts _ (List.mem_of_getElem? (i := 4) rfl) : (Cond.fieldLink RX6 132 "CordSeals$Dies" "from" "[I").before _ s = true) (fun _ h9 => h9) rfl dX6_addDie_67 ?_
              refine lv_aload_n hx hb dX6_addDie_70 rfl (lv_at hl 0 rfl) ?_
              refine va_get (D := g) (ci := 6) (v := Value.ref (ad 4)) (C := RX6) (T := TX6) (N := 5) hx hb hts in_X6_addDie_X6 hown hK.1 hP 0 (rfl) rfl 1 (by decide) (hts _ (List.mem_of_getElem? (i := 1) rfl) : (Cond.fieldLink RX6 21 "CordSeals$State" "dies" "LCordSeals$Dies;").before _ s = true) (fun _ h9 => h9) rfl dX6_addDie_71 ?_
              refine va_get (D := g) (ci := 0) (v := Value.int (iI (R 4 0))) (C := RX0) (T := TX0) (N := 6) hx hb hts in_X6_addDie_X0 hown hK.1 hP 4 (rfl) rfl 0 (by decide) (hts _ (List.mem_of_getElem? (i := 2) rfl) : (Cond.fieldLink RX6 50 "CordSeals$Dies" "count" "I").before _ s = true) (fun _ h9 => h9) rfl dX6_addDie_74 ?_
              have hb_9 := hB 4 0
              refine lv_iload_n hx hb dX6_addDie_77 rfl (lv_at hl 2 rfl) ?_
              refine zi_ast hx hb hK hP hD hS 6 (f := (R 6)) (rfl) ((R 4 0).toNat) (by omega) (by omega) (by decide) dX6_addDie_78 (wo := stW ad (u2 (u2 R 5 (updZ (R 5) ((R 4 0).toNat) h)) 6 (updZ (R 6) ((R 4 0).toNat) a)) τ) rfl (fun H locs hP hD hS => ?_)
              refine lv_aload_n hx hb dX6_addDie_79 rfl (lv_at hl 0 rfl) ?_
              refine va_get (D := g) (ci := 6) (v := Value.ref (ad 4)) (C := RX6) (T := TX6) (N := 5) hx hb hts in_X6_addDie_X6 hown hK.1 hP 0 (rfl) rfl 1 (by decide) (hts _ (List.mem_of_getElem? (i := 1) rfl) : (Cond.fieldLink RX6 21 "CordSeals$State" "dies" "LCordSeals$Dies;").before _ s = true) (fun _ h9 => h9) rfl dX6_addDie_80 ?_
              refine va_get (D := g) (ci := 0) (v := Value.ref (ad 7)) (C := RX0) (T := TX0) (N := 6) hx hb hts in_X6_addDie_X0 hown hK.1 hP 4 (rfl) rfl 3 (by decide) (hts _ (List.mem_of_getElem? (i := 5) rfl) : (Cond.fieldLink RX6 135 "CordSeals$Dies" "to" "[I").before _ s = true) (fun _ h9 => h9) rfl dX6_addDie_83 ?_
              refine lv_aload_n hx hb dX6_addDie_86 rfl (lv_at hl 0 rfl) ?_
              refine va_get (D := g) (ci := 6) (v := Value.ref (ad 4)) (C := RX6) (T := TX6) (N := 5) hx hb hts in_X6_addDie_X6 hown hK.1 hP 0 (rfl) rfl 1 (by decide) (hts _ (List.mem_of_getElem? (i := 1) rfl) : (Cond.fieldLink RX6 21 "CordSeals$State" "dies" "LCordSeals$Dies;").before _ s = true) (fun _ h9 => h9) rfl dX6_addDie_87 ?_
              refine va_get (D := g) (ci := 0) (v := Value.int (iI (R 4 0))) (C := RX0) (T := TX0) (N := 6) hx hb hts in_X6_addDie_X0 hown hK.1 hP 4 (rfl) rfl 0 (by decide) (hts _ (List.mem_of_getElem? (i := 2) rfl) : (Cond.fieldLink RX6 50 "CordSeals$Dies" "count" "I").before _ s = true) (fun _ h9 => h9) rfl dX6_addDie_90 ?_
              have hb_10 := hB 4 0
              refine lv_iload_n hx hb dX6_addDie_93 rfl (lv_at hl 3 rfl) ?_
              refine zi_ast hx hb hK hP hD hS 7 (f := (R 7)) (rfl) ((R 4 0).toNat) (by omega) (by omega) (by decide) dX6_addDie_94 (wo := stW ad (u2 (u2 (u2 R 5 (updZ (R 5) ((R 4 0).toNat) h)) 6 (updZ (R 6) ((R 4 0).toNat) a)) 7 (updZ (R 7) ((R 4 0).toNat) b)) τ) rfl (fun H locs hP hD hS => ?_)
              refine lv_aload_n hx hb dX6_addDie_95 rfl (lv_at hl 0 rfl) ?_
              refine va_get (D := g) (ci := 6) (v := Value.ref (ad 4)) (C := RX6) (T := TX6) (N := 5) hx hb hts in_X6_addDie_X6 hown hK.1 hP 0 (rfl) rfl 1 (by decide) (hts _ (List.mem_of_getElem? (i := 1) rfl) : (Cond.fieldLink RX6 21 "CordSeals$State" "dies" "LCordSeals$Dies;").before _ s = true) (fun _ h9 => h9) rfl dX6_addDie_96 ?_
              refine va_get (D := g) (ci := 0) (v := Value.ref (ad 8)) (C := RX0) (T := TX0) (N := 6) hx hb hts in_X6_addDie_X0 hown hK.1 hP 4 (rfl) rfl 4 (by decide) (hts _ (List.mem_of_getElem? (i := 6) rfl) : (Cond.fieldLink RX6 138 "CordSeals$Dies" "cracks" "[I").before _ s = true) (fun _ h9 => h9) rfl dX6_addDie_99 ?_
              refine lv_aload_n hx hb dX6_addDie_102 rfl (lv_at hl 0 rfl) ?_
              refine va_get (D := g) (ci := 6) (v := Value.ref (ad 4)) (C := RX6) (T := TX6) (N := 5) hx hb hts in_X6_addDie_X6 hown hK.1 hP 0 (rfl) rfl 1 (by decide) (hts _ (List.mem_of_getElem? (i := 1) rfl) : (Cond.fieldLink RX6 21 "CordSeals$State" "dies" "LCordSeals$Dies;").before _ s = true) (fun _ h9 => h9) rfl dX6_addDie_103 ?_
              refine va_get (D := g) (ci := 0) (v := Value.int (iI (R 4 0))) (C := RX0) (T := TX0) (N := 6) hx hb hts in_X6_addDie_X0 hown hK.1 hP 4 (rfl) rfl 0 (by decide) (hts _ (List.mem_of_getElem? (i := 2) rfl) : (Cond.fieldLink RX6 50 "CordSeals$Dies" "count" "I").before _ s = true) (fun _ h9 => h9) rfl dX6_addDie_106 ?_
              have hb_11 := hB 4 0
              refine lv_iconst (v := iI 0) hx hb dX6_addDie_109 (by decide) ?_
              refine zi_ast hx hb hK hP hD hS 8 (f := (R 8)) (rfl) ((R 4 0).toNat) (by omega) (by omega) (by decide) dX6_addDie_110 (wo := stW ad (u2 (u2 (u2 (u2 R 5 (updZ (R 5) ((R 4 0).toNat) h)) 6 (updZ (R 6) ((R 4 0).toNat) a)) 7 (updZ (R 7) ((R 4 0).toNat) b)) 8 (updZ (R 8) ((R 4 0).toNat) 0)) τ) rfl (fun H locs hP hD hS => ?_)
              refine lv_aload_n hx hb dX6_addDie_111 rfl (lv_at hl 0 rfl) ?_
              refine va_get (D := g) (ci := 6) (v := Value.ref (ad 4)) (C := RX6) (T := TX6) (N := 5) hx hb hts in_X6_addDie_X6 hown hK.1 hP 0 (rfl) rfl 1 (by decide) (hts _ (List.mem_of_getElem? (i := 1) rfl) : (Cond.fieldLink RX6 21 "CordSeals$State" "dies" "LCordSeals$Dies;").before _ s = true) (fun _ h9 => h9) rfl dX6_addDie_112 ?_
              refine lv_dup hx hb dX6_addDie_115 rfl ?_
              refine va_get (D := g) (ci := 0) (v := Value.int (iI (R 4 0))) (C := RX0) (T := TX0) (N := 6) hx hb hts in_X6_addDie_X0 hown hK.1 hP 4 (rfl) rfl 0 (by decide) (hts _ (List.mem_of_getElem? (i := 2) rfl) : (Cond.fieldLink RX6 50 "CordSeals$Dies" "count" "I").before _ s = true) (fun _ h9 => h9) rfl dX6_addDie_116 ?_
              have hb_12 := hB 4 0
              refine lv_dup_x1 hx hb dX6_addDie_119 rfl rfl ?_
              refine lv_iconst (v := iI 1) hx hb dX6_addDie_120 (by decide) ?_
              refine zi_add hx hb dX6_addDie_121 ?_
              refine va_put (D := g) (ci := 0) (v := Value.int (iI ((R 4 0) + 1))) (ty := .int) (C := RX0) (T := TX0) (N := 6) hx hb hts in_X6_addDie_X0 tyX0 tyX0_ok nmX0 hown hK.1 hP hD hS 4 (rfl) rfl 0 (by decide) (hts _ (List.mem_of_getElem? (i := 2) rfl) : (Cond.fieldLink RX6 50 "CordSeals$Dies" "count" "I").before _ s = true) (fun _ h9 => h9) rfl (by decide +kernel) rfl rfl (Nat.le_of_ble_eq_true rfl) dX6_addDie_122 (fun H locs hP hD hS => ?_)
              have hP : va_P g vwCl (stW ad (u2 (u2 (u2 (u2 (u2 R 5 (updZ (R 5) ((R 4 0).toNat) h)) 6 (updZ (R 6) ((R 4 0).toNat) a)) 7 (updZ (R 7) ((R 4 0).toNat) b)) 8 (updZ (R 8) ((R 4 0).toNat) 0)) 4 (fun _ => (R 4 0) + 1)) τ) H := hP
              have hD : va_D A (stW ad (u2 (u2 (u2 (u2 (u2 R 5 (updZ (R 5) ((R 4 0).toNat) h)) 6 (updZ (R 6) ((R 4 0).toNat) a)) 7 (updZ (R 7) ((R 4 0).toNat) b)) 8 (updZ (R 8) ((R 4 0).toNat) 0)) 4 (fun _ => (R 4 0) + 1)) τ) := hD
              exact rw_iret hx hb hr hlocks hP hS (by unfold aDie; (repeat' split) <;> first | (exact ⟨rfl, rfl⟩) | (exfalso; omega) | (exfalso; simp_all; done) | (exfalso; simp_all; omega)) dX6_addDie_125
            · have _ := c_7
              refine lv_bipush (v := iI (-4)) hx hb dX6_addDie_44 (by decide) ?_
              exact rw_iret hx hb hr hlocks hP hS (by unfold aDie; (repeat' split) <;> first | (exact ⟨rfl, rfl⟩) | (exfalso; omega) | (exfalso; simp_all; done) | (exfalso; simp_all; omega)) dX6_addDie_46
          · have _ := c_5
            refine lv_bipush (v := iI (-3)) hx hb dX6_addDie_29 (by decide) ?_
            exact rw_iret hx hb hr hlocks hP hS (by unfold aDie; (repeat' split) <;> first | (exact ⟨rfl, rfl⟩) | (exfalso; omega) | (exfalso; simp_all; done) | (exfalso; simp_all; omega)) dX6_addDie_31

theorem cd_X6_addCrack : cd yX6_addCrack 2 := by decide +kernel
theorem in_X6_addCrack_X0 : ∀ w ∈ wsX00, w ∈ wsX6_addCrack := by decide +kernel
theorem in_X6_addCrack_X6 : ∀ w ∈ wsX60, w ∈ wsX6_addCrack := by decide +kernel
set_option maxHeartbeats 4000000 in
set_option maxRecDepth 100000 in
theorem c_X6_addCrack (l : Launch) (g : va_G) (τ : Nat → ClassId) (ad : Nat → Nat) (R : Nat → Nat → Int) (hI : SI R) (d : Int) (rd : -2147483648 ≤ d ∧ d < 2147483648) (y : Int) (ry : -2147483648 ≤ y ∧ y < 2147483648)  : Met l yX6_addCrack wsX6_addCrack { frames := 2, cells := 0, slots := 0, locals := 45 } (va_Pc [Value.ref (ad 0), Value.int (iI d), Value.int (iI y)] (rwW g τ (stW ad R τ))) (rwQ g (fun v w => v = some (Value.int (iI (aCrack R d y).1)) ∧ w = stW ad (aCrack R d y).2 τ) (inW (stW ad R τ))) 0 0 (inW (stW ad R τ)) := by
  have hB := hI.hB
  have hr0 := hI.r
  have hd0 := hI.d
  have hs0 := hI.s
  refine rwMet (cc := cX6_addCrack) (maxL := 3) (ret := (some .int)) (lv := [(0, Value.ref (ad 0)), (1, Value.int (iI d)), (2, Value.int (iI y))]) (by decide) rfl (Nat.le_of_ble_eq_true rfl) rfl ?_
  intro p e s m below meth c hx hb hr hml hts hown hlocks A H hP hD hS hK ls hl
  refine lv_aload_n hx hb dX6_addCrack_0 rfl (lv_at hl 0 rfl) ?_
  refine va_get (D := g) (ci := 6) (v := Value.ref (ad 4)) (C := RX6) (T := TX6) (N := 5) hx hb hts in_X6_addCrack_X6 hown hK.1 hP 0 (rfl) rfl 1 (by decide) (hts _ (List.mem_of_getElem? (i := 1) rfl) : (Cond.fieldLink RX6 21 "CordSeals$State" "dies" "LCordSeals$Dies;").before _ s = true) (fun _ h9 => h9) rfl dX6_addCrack_1 ?_
  refine lv_iload_n hx hb dX6_addCrack_4 rfl (lv_at hl 1 rfl) ?_
  refine ro_V (As := [Value.int (iI d)]) (rest := []) (v := some (Value.int (iI (zB (dHas (R 4 0) d))))) ⟨hx, hb, hml, hown, hts⟩ (c_X0_has l g τ ad R hB d ⟨by omega, by omega⟩) gX6_addCrack_X0_has cd_X0_has rfl rfl ⟨rfl, rfl⟩ ⟨Nat.le_of_ble_eq_true rfl, Nat.le_of_ble_eq_true rfl⟩ hK (hP.sub [4, 5, 6, 7, 8, 9] rfl) 0 rfl rfl rfl rfl hl rfl (Nat.le_of_ble_eq_true rfl) dX6_addCrack_5 ⟨Nat.le_of_ble_eq_true rfl, Nat.le_of_ble_eq_true rfl⟩ ?_
  refine tl_some ?_
  refine zb_if_ne (tgt := 14) hx hb dX6_addCrack_8 (by decide) (fun c_1 => ?_) (fun c_1 => ?_)
  · have _ := c_1
    have hh : 0 ≤ d ∧ d < R 4 0 := by simpa [dHas] using c_1
    have hdd := hI.ds d.toNat (by omega)
    have hmm := hB 8 d.toNat
    refine lv_iload_n hx hb dX6_addCrack_14 rfl (lv_at hl 2 rfl) ?_
    refine ro_SN (As := [Value.int (iI y)]) (rest := []) (v := some (Value.int (iI (zB (decide (1000 ≤ y ∧ y ≤ 1999)))))) ⟨hx, hb, hml, hown, hts⟩ (c_X9_isYear l g τ y ⟨by omega, by omega⟩) gX6_addCrack_X9_isYear_n116 cd_X9_isYear rfl ⟨rfl, rfl⟩ ⟨Nat.le_of_ble_eq_true rfl, Nat.le_of_ble_eq_true rfl⟩ hK (by decide +kernel) (List.mem_of_getElem? (i := 11) rfl) (List.mem_of_getElem? (i := 10) rfl) (fun _ _ h => by cases h) rfl hl rfl (Nat.le_of_ble_eq_true rfl) dX6_addCrack_15 ⟨Nat.le_of_ble_eq_true rfl, Nat.le_of_ble_eq_true rfl⟩ ?_
    refine tl_some ?_
    refine zb_if_ne (tgt := 24) hx hb dX6_addCrack_18 (by decide) (fun c_2 => ?_) (fun c_2 => ?_)
    · have cd_c_2 := of_decide_eq_true c_2
      refine lv_aload_n hx hb dX6_addCrack_24 rfl (lv_at hl 0 rfl) ?_
      refine va_get (D := g) (ci := 6) (v := Value.ref (ad 4)) (C := RX6) (T := TX6) (N := 5) hx hb hts in_X6_addCrack_X6 hown hK.1 hP 0 (rfl) rfl 1 (by decide) (hts _ (List.mem_of_getElem? (i := 1) rfl) : (Cond.fieldLink RX6 21 "CordSeals$State" "dies" "LCordSeals$Dies;").before _ s = true) (fun _ h9 => h9) rfl dX6_addCrack_25 ?_
      refine va_get (D := g) (ci := 0) (v := Value.ref (ad 8)) (C := RX0) (T := TX0) (N := 6) hx hb hts in_X6_addCrack_X0 hown hK.1 hP 4 (rfl) rfl 4 (by decide) (hts _ (List.mem_of_getElem? (i := 2) rfl) : (Cond.fieldLink RX6 138 "CordSeals$Dies" "cracks" "[I").before _ s = true) (fun _ h9 => h9) rfl dX6_addCrack_28 ?_
      refine lv_iload_n hx hb dX6_addCrack_31 rfl (lv_at hl 1 rfl) ?_
      refine zi_ald hx hb hK hP 8 (f := (R 8)) (rfl) ((d).toNat) (by omega) (by omega) (by decide) dX6_addCrack_32 ?_
      have hb_3 := hB 8 ((d).toNat)
      refine lv_iconst (v := iI 4) hx hb dX6_addCrack_33 (by decide) ?_
      refine zi_icmp_ge (tgt := 49) hx hb ⟨by omega, by omega⟩ ⟨by decide, by decide⟩ dX6_addCrack_34 (by decide) (fun c_4 => ?_) (fun c_4 => ?_)
      · have _ := c_4
        refine lv_bipush (v := iI (-4)) hx hb dX6_addCrack_49 (by decide) ?_
        exact rw_iret hx hb hr hlocks hP hS (by unfold aCrack; (repeat' split) <;> first | (exact ⟨rfl, rfl⟩) | (exfalso; omega) | (exfalso; simp_all; done) | (exfalso; simp_all; omega)) dX6_addCrack_51
      · have _ := c_4
        refine lv_aload_n hx hb dX6_addCrack_37 rfl (lv_at hl 0 rfl) ?_
        refine va_get (D := g) (ci := 6) (v := Value.ref (ad 4)) (C := RX6) (T := TX6) (N := 5) hx hb hts in_X6_addCrack_X6 hown hK.1 hP 0 (rfl) rfl 1 (by decide) (hts _ (List.mem_of_getElem? (i := 1) rfl) : (Cond.fieldLink RX6 21 "CordSeals$State" "dies" "LCordSeals$Dies;").before _ s = true) (fun _ h9 => h9) rfl dX6_addCrack_38 ?_
        refine lv_iload_n hx hb dX6_addCrack_41 rfl (lv_at hl 1 rfl) ?_
        refine cv_i (y := iI ((d.toNat : Nat) : Int)) (congrArg iI (by omega)) ?_
        refine lv_iload_n hx hb dX6_addCrack_42 rfl (lv_at hl 2 rfl) ?_
        refine ro_V (As := [Value.int (iI ((d.toNat : Nat) : Int)), Value.int (iI y)]) (rest := []) (v := some (Value.int (iI (zB (dIn R d.toNat (R 8 d.toNat).toNat y))))) ⟨hx, hb, hml, hown, hts⟩ (c_X0_crackedIn l g τ ad R hB d.toNat (R 8 d.toNat).toNat (by omega) (by omega) (by omega) y ⟨by omega, by omega⟩) gX6_addCrack_X0_crackedIn cd_X0_crackedIn rfl rfl ⟨rfl, rfl⟩ ⟨Nat.le_of_ble_eq_true rfl, Nat.le_of_ble_eq_true rfl⟩ hK (hP.sub [4, 5, 6, 7, 8, 9] rfl) 0 rfl rfl rfl rfl hl rfl (Nat.le_of_ble_eq_true rfl) dX6_addCrack_43 ⟨Nat.le_of_ble_eq_true rfl, Nat.le_of_ble_eq_true rfl⟩ ?_
        refine tl_some ?_
        refine zb_if_eq (tgt := 52) hx hb dX6_addCrack_46 (by decide) (fun c_5 => ?_) (fun c_5 => ?_)
        · have _ := c_5
          refine lv_aload_n hx hb dX6_addCrack_52 rfl (lv_at hl 0 rfl) ?_
          refine va_get (D := g) (ci := 6) (v := Value.ref (ad 4)) (C := RX6) (T := TX6) (N := 5) hx hb hts in_X6_addCrack_X6 hown hK.1 hP 0 (rfl) rfl 1 (by decide) (hts _ (List.mem_of_getElem? (i := 1) rfl) : (Cond.fieldLink RX6 21 "CordSeals$State" "dies" "LCordSeals$Dies;").before _ s = true) (fun _ h9 => h9) rfl dX6_addCrack_53 ?_
          refine va_get (D := g) (ci := 0) (v := Value.ref (ad 9)) (C := RX0) (T := TX0) (N := 6) hx hb hts in_X6_addCrack_X0 hown hK.1 hP 4 (rfl) rfl 5 (by decide) (hts _ (List.mem_of_getElem? (i := 3) rfl) : (Cond.fieldLink RX6 148 "CordSeals$Dies" "crackYears" "[I").before _ s = true) (fun _ h9 => h9) rfl dX6_addCrack_56 ?_
          refine lv_iload_n hx hb dX6_addCrack_59 rfl (lv_at hl 1 rfl) ?_
          refine lv_iconst (v := iI 4) hx hb dX6_addCrack_60 (by decide) ?_
          refine zi_mul hx hb dX6_addCrack_61 ?_
          refine lv_aload_n hx hb dX6_addCrack_62 rfl (lv_at hl 0 rfl) ?_
          refine va_get (D := g) (ci := 6) (v := Value.ref (ad 4)) (C := RX6) (T := TX6) (N := 5) hx hb hts in_X6_addCrack_X6 hown hK.1 hP 0 (rfl) rfl 1 (by decide) (hts _ (List.mem_of_getElem? (i := 1) rfl) : (Cond.fieldLink RX6 21 "CordSeals$State" "dies" "LCordSeals$Dies;").before _ s = true) (fun _ h9 => h9) rfl dX6_addCrack_63 ?_
          refine va_get (D := g) (ci := 0) (v := Value.ref (ad 8)) (C := RX0) (T := TX0) (N := 6) hx hb hts in_X6_addCrack_X0 hown hK.1 hP 4 (rfl) rfl 4 (by decide) (hts _ (List.mem_of_getElem? (i := 2) rfl) : (Cond.fieldLink RX6 138 "CordSeals$Dies" "cracks" "[I").before _ s = true) (fun _ h9 => h9) rfl dX6_addCrack_66 ?_
          refine lv_iload_n hx hb dX6_addCrack_69 rfl (lv_at hl 1 rfl) ?_
          refine zi_ald hx hb hK hP 8 (f := (R 8)) (rfl) ((d).toNat) (by omega) (by omega) (by decide) dX6_addCrack_70 ?_
          have hb_6 := hB 8 ((d).toNat)
          refine zi_add hx hb dX6_addCrack_71 ?_
          refine lv_iload_n hx hb dX6_addCrack_72 rfl (lv_at hl 2 rfl) ?_
          refine zi_ast hx hb hK hP hD hS 9 (f := (R 9)) (rfl) (d.toNat * 4 + (R 8 d.toNat).toNat) (by omega) (by omega) (by decide) dX6_addCrack_73 (wo := stW ad (u2 R 9 (updZ (R 9) (d.toNat * 4 + (R 8 d.toNat).toNat) y)) τ) rfl (fun H locs hP hD hS => ?_)
          refine lv_aload_n hx hb dX6_addCrack_74 rfl (lv_at hl 0 rfl) ?_
          refine va_get (D := g) (ci := 6) (v := Value.ref (ad 4)) (C := RX6) (T := TX6) (N := 5) hx hb hts in_X6_addCrack_X6 hown hK.1 hP 0 (rfl) rfl 1 (by decide) (hts _ (List.mem_of_getElem? (i := 1) rfl) : (Cond.fieldLink RX6 21 "CordSeals$State" "dies" "LCordSeals$Dies;").before _ s = true) (fun _ h9 => h9) rfl dX6_addCrack_75 ?_
          refine va_get (D := g) (ci := 0) (v := Value.ref (ad 8)) (C := RX0) (T := TX0) (N := 6) hx hb hts in_X6_addCrack_X0 hown hK.1 hP 4 (rfl) rfl 4 (by decide) (hts _ (List.mem_of_getElem? (i := 2) rfl) : (Cond.fieldLink RX6 138 "CordSeals$Dies" "cracks" "[I").before _ s = true) (fun _ h9 => h9) rfl dX6_addCrack_78 ?_
          refine lv_iload_n hx hb dX6_addCrack_81 rfl (lv_at hl 1 rfl) ?_
          refine lv_dup2_11 hx hb dX6_addCrack_82 rfl rfl ?_
          refine zi_ald hx hb hK hP 8 (f := (R 8)) (rfl) ((d).toNat) (by omega) (by omega) (by decide) dX6_addCrack_83 ?_
          have hb_7 := hB 8 ((d).toNat)
          refine lv_dup_x2 hx hb dX6_addCrack_84 rfl rfl rfl ?_
          refine lv_iconst (v := iI 1) hx hb dX6_addCrack_85 (by decide) ?_
          refine zi_add hx hb dX6_addCrack_86 ?_
          refine zi_ast hx hb hK hP hD hS 8 (f := (R 8)) (rfl) ((d).toNat) (by omega) (by omega) (by decide) dX6_addCrack_87 (wo := stW ad (u2 (u2 R 9 (updZ (R 9) (d.toNat * 4 + (R 8 d.toNat).toNat) y)) 8 (updZ (R 8) ((d).toNat) ((R 8 ((d).toNat)) + 1))) τ) rfl (fun H locs hP hD hS => ?_)
          exact rw_iret hx hb hr hlocks hP hS (by unfold aCrack; (repeat' split) <;> first | (exact ⟨rfl, rfl⟩) | (exfalso; omega) | (exfalso; simp_all; done) | (exfalso; simp_all; omega)) dX6_addCrack_88
        · have _ := c_5
          refine lv_bipush (v := iI (-4)) hx hb dX6_addCrack_49 (by decide) ?_
          exact rw_iret hx hb hr hlocks hP hS (by unfold aCrack; (repeat' split) <;> first | (exact ⟨rfl, rfl⟩) | (exfalso; omega) | (exfalso; simp_all; done) | (exfalso; simp_all; omega)) dX6_addCrack_51
    · have cd_c_2 := of_decide_eq_false c_2
      refine lv_bipush (v := iI (-3)) hx hb dX6_addCrack_21 (by decide) ?_
      exact rw_iret hx hb hr hlocks hP hS (by unfold aCrack; (repeat' split) <;> first | (exact ⟨rfl, rfl⟩) | (exfalso; omega) | (exfalso; simp_all; done) | (exfalso; simp_all; omega)) dX6_addCrack_23
  · have _ := c_1
    have hh : d < 0 ∨ R 4 0 ≤ d := by have := c_1; simp [dHas] at this; omega
    refine lv_bipush (v := iI (-2)) hx hb dX6_addCrack_11 (by decide) ?_
    exact rw_iret hx hb hr hlocks hP hS (by unfold aCrack; (repeat' split) <;> first | (exact ⟨rfl, rfl⟩) | (exfalso; omega) | (exfalso; simp_all; done) | (exfalso; simp_all; omega)) dX6_addCrack_13

theorem cd_X6_addSeal : cd yX6_addSeal 5 := by decide +kernel
theorem in_X6_addSeal_X4 : ∀ w ∈ wsX40, w ∈ wsX6_addSeal := by decide +kernel
theorem in_X6_addSeal_X6 : ∀ w ∈ wsX60, w ∈ wsX6_addSeal := by decide +kernel
set_option maxHeartbeats 4000000 in
set_option maxRecDepth 100000 in
theorem c_X6_addSeal (l : Launch) (g : va_G) (τ : Nat → ClassId) (ad : Nat → Nat) (R : Nat → Nat → Int) (hI : SI R) (d : Int) (rd : -2147483648 ≤ d ∧ d < 2147483648) (a : Int) (ra : -2147483648 ≤ a ∧ a < 2147483648) (q : Int) (rq : -2147483648 ≤ q ∧ q < 2147483648) (z : Int) (rz : -2147483648 ≤ z ∧ z < 2147483648) (x : Int) (rx : -2147483648 ≤ x ∧ x < 2147483648)  : Met l yX6_addSeal wsX6_addSeal { frames := 1, cells := 0, slots := 0, locals := 22 } (va_Pc [Value.ref (ad 0), Value.int (iI d), Value.int (iI a), Value.int (iI q), Value.int (iI z), Value.int (iI x)] (rwW g τ (stW ad R τ))) (rwQ g (fun v w => v = some (Value.int (iI (aSeal R d a q z x).1)) ∧ w = stW ad (aSeal R d a q z x).2 τ) (inW (stW ad R τ))) 0 0 (inW (stW ad R τ)) := by
  have hB := hI.hB
  have hr0 := hI.r
  have hd0 := hI.d
  have hs0 := hI.s
  refine rwMet (cc := cX6_addSeal) (maxL := 6) (ret := (some .int)) (lv := [(0, Value.ref (ad 0)), (1, Value.int (iI d)), (2, Value.int (iI a)), (3, Value.int (iI q)), (4, Value.int (iI z)), (5, Value.int (iI x))]) (by decide) rfl (Nat.le_of_ble_eq_true rfl) rfl ?_
  intro p e s m below meth c hx hb hr hml hts hown hlocks A H hP hD hS hK ls hl
  refine lv_aload_n hx hb dX6_addSeal_0 rfl (lv_at hl 0 rfl) ?_
  refine va_get (D := g) (ci := 6) (v := Value.ref (ad 4)) (C := RX6) (T := TX6) (N := 5) hx hb hts in_X6_addSeal_X6 hown hK.1 hP 0 (rfl) rfl 1 (by decide) (hts _ (List.mem_of_getElem? (i := 1) rfl) : (Cond.fieldLink RX6 21 "CordSeals$State" "dies" "LCordSeals$Dies;").before _ s = true) (fun _ h9 => h9) rfl dX6_addSeal_1 ?_
  refine lv_iload_n hx hb dX6_addSeal_4 rfl (lv_at hl 1 rfl) ?_
  refine ro_V (As := [Value.int (iI d)]) (rest := []) (v := some (Value.int (iI (zB (dHas (R 4 0) d))))) ⟨hx, hb, hml, hown, hts⟩ (c_X0_has l g τ ad R hB d ⟨by omega, by omega⟩) gX6_addSeal_X0_has cd_X0_has rfl rfl ⟨rfl, rfl⟩ ⟨Nat.le_of_ble_eq_true rfl, Nat.le_of_ble_eq_true rfl⟩ hK (hP.sub [4, 5, 6, 7, 8, 9] rfl) 0 rfl rfl rfl rfl hl rfl (Nat.le_of_ble_eq_true rfl) dX6_addSeal_5 ⟨Nat.le_of_ble_eq_true rfl, Nat.le_of_ble_eq_true rfl⟩ ?_
  refine tl_some ?_
  refine zb_if_ne (tgt := 14) hx hb dX6_addSeal_8 (by decide) (fun c_1 => ?_) (fun c_1 => ?_)
  · have _ := c_1
    have hh : 0 ≤ d ∧ d < R 4 0 := by simpa [dHas] using c_1
    have hdd := hI.ds d.toNat (by omega)
    have hmm := hB 8 d.toNat
    have hp := pow_r (m := (R 8 d.toNat).toNat) (by omega)
    refine lv_iload_n hx hb dX6_addSeal_14 rfl (lv_at hl 2 rfl) ?_
    refine ro_SN (As := [Value.int (iI a)]) (rest := []) (v := some (Value.int (iI (zB (decide (0 ≤ a ∧ a < 2)))))) ⟨hx, hb, hml, hown, hts⟩ (c_X9_isMaterial l g τ a ⟨by omega, by omega⟩) gX6_addSeal_X9_isMaterial_n151 cd_X9_isMaterial rfl ⟨rfl, rfl⟩ ⟨Nat.le_of_ble_eq_true rfl, Nat.le_of_ble_eq_true rfl⟩ hK (by decide +kernel) (List.mem_of_getElem? (i := 17) rfl) (List.mem_of_getElem? (i := 16) rfl) (fun _ _ h => by cases h) rfl hl rfl (Nat.le_of_ble_eq_true rfl) dX6_addSeal_15 ⟨Nat.le_of_ble_eq_true rfl, Nat.le_of_ble_eq_true rfl⟩ ?_
    refine tl_some ?_
    refine zb_if_eq (tgt := 53) hx hb dX6_addSeal_18 (by decide) (fun c_2 => ?_) (fun c_2 => ?_)
    · have cd_c_2 := of_decide_eq_false c_2
      refine lv_bipush (v := iI (-3)) hx hb dX6_addSeal_53 (by decide) ?_
      exact rw_iret hx hb hr hlocks hP hS (by unfold aSeal; (repeat' split) <;> first | (exact ⟨rfl, rfl⟩) | (exfalso; omega) | (exfalso; simp_all; done) | (exfalso; simp_all; omega)) dX6_addSeal_55
    · have cd_c_2 := of_decide_eq_true c_2
      refine lv_iload_n hx hb dX6_addSeal_21 rfl (lv_at hl 3 rfl) ?_
      refine lv_iconst (v := iI (-1)) hx hb dX6_addSeal_22 (by decide) ?_
      refine zi_icmp_lt (tgt := 53) hx hb ⟨by omega, by omega⟩ ⟨by decide, by decide⟩ dX6_addSeal_23 (by decide) (fun c_3 => ?_) (fun c_3 => ?_)
      · have _ := c_3
        refine lv_bipush (v := iI (-3)) hx hb dX6_addSeal_53 (by decide) ?_
        exact rw_iret hx hb hr hlocks hP hS (by unfold aSeal; (repeat' split) <;> first | (exact ⟨rfl, rfl⟩) | (exfalso; omega) | (exfalso; simp_all; done) | (exfalso; simp_all; omega)) dX6_addSeal_55
      · have _ := c_3
        refine lv_iload_n hx hb dX6_addSeal_26 rfl (lv_at hl 3 rfl) ?_
        refine lv_bipush (v := iI 8) hx hb dX6_addSeal_27 (by decide) ?_
        refine zi_icmp_ge (tgt := 53) hx hb ⟨by omega, by omega⟩ ⟨by decide, by decide⟩ dX6_addSeal_29 (by decide) (fun c_4 => ?_) (fun c_4 => ?_)
        · have _ := c_4
          refine lv_bipush (v := iI (-3)) hx hb dX6_addSeal_53 (by decide) ?_
          exact rw_iret hx hb hr hlocks hP hS (by unfold aSeal; (repeat' split) <;> first | (exact ⟨rfl, rfl⟩) | (exfalso; omega) | (exfalso; simp_all; done) | (exfalso; simp_all; omega)) dX6_addSeal_55
        · have _ := c_4
          refine lv_iload hx hb dX6_addSeal_32 (lv_at hl 4 rfl) ?_
          refine ro_SN (As := [Value.int (iI z)]) (rest := []) (v := some (Value.int (iI (zB (decide (0 ≤ z ∧ z ≤ 99)))))) ⟨hx, hb, hml, hown, hts⟩ (c_X9_isBubbles l g τ z ⟨by omega, by omega⟩) gX6_addSeal_X9_isBubbles_n154 cd_X9_isBubbles rfl ⟨rfl, rfl⟩ ⟨Nat.le_of_ble_eq_true rfl, Nat.le_of_ble_eq_true rfl⟩ hK (by decide +kernel) (List.mem_of_getElem? (i := 17) rfl) (List.mem_of_getElem? (i := 19) rfl) (fun _ _ h => by cases h) rfl hl rfl (Nat.le_of_ble_eq_true rfl) dX6_addSeal_34 ⟨Nat.le_of_ble_eq_true rfl, Nat.le_of_ble_eq_true rfl⟩ ?_
          refine tl_some ?_
          refine zb_if_eq (tgt := 53) hx hb dX6_addSeal_37 (by decide) (fun c_5 => ?_) (fun c_5 => ?_)
          · have cd_c_5 := of_decide_eq_false c_5
            refine lv_bipush (v := iI (-3)) hx hb dX6_addSeal_53 (by decide) ?_
            exact rw_iret hx hb hr hlocks hP hS (by unfold aSeal; (repeat' split) <;> first | (exact ⟨rfl, rfl⟩) | (exfalso; omega) | (exfalso; simp_all; done) | (exfalso; simp_all; omega)) dX6_addSeal_55
          · have cd_c_5 := of_decide_eq_true c_5
            refine lv_aload_n hx hb dX6_addSeal_40 rfl (lv_at hl 0 rfl) ?_
            refine va_get (D := g) (ci := 6) (v := Value.ref (ad 4)) (C := RX6) (T := TX6) (N := 5) hx hb hts in_X6_addSeal_X6 hown hK.1 hP 0 (rfl) rfl 1 (by decide) (hts _ (List.mem_of_getElem? (i := 1) rfl) : (Cond.fieldLink RX6 21 "CordSeals$State" "dies" "LCordSeals$Dies;").before _ s = true) (fun _ h9 => h9) rfl dX6_addSeal_41 ?_
            refine lv_iload_n hx hb dX6_addSeal_44 rfl (lv_at hl 1 rfl) ?_
            refine cv_i (y := iI ((d.toNat : Nat) : Int)) (congrArg iI (by omega)) ?_
            refine lv_iload hx hb dX6_addSeal_45 (lv_at hl 5 rfl) ?_
            refine ro_V (As := [Value.int (iI ((d.toNat : Nat) : Int)), Value.int (iI x)]) (rest := []) (v := some (Value.int (iI (zB (decide (0 ≤ x ∧ x < (2 : Int) ^ (R 8 d.toNat).toNat)))))) ⟨hx, hb, hml, hown, hts⟩ (c_X0_hasCracks l g τ ad R hB d.toNat (R 8 d.toNat).toNat (by omega) (by omega) (by omega) x ⟨by omega, by omega⟩) gX6_addSeal_X0_hasCracks cd_X0_hasCracks rfl rfl ⟨rfl, rfl⟩ ⟨Nat.le_of_ble_eq_true rfl, Nat.le_of_ble_eq_true rfl⟩ hK (hP.sub [4, 5, 6, 7, 8, 9] rfl) 0 rfl rfl rfl rfl hl rfl (Nat.le_of_ble_eq_true rfl) dX6_addSeal_47 ⟨Nat.le_of_ble_eq_true rfl, Nat.le_of_ble_eq_true rfl⟩ ?_
            refine tl_some ?_
            refine zb_if_ne (tgt := 56) hx hb dX6_addSeal_50 (by decide) (fun c_6 => ?_) (fun c_6 => ?_)
            · have cd_c_6 := of_decide_eq_true c_6
              refine lv_aload_n hx hb dX6_addSeal_56 rfl (lv_at hl 0 rfl) ?_
              refine va_get (D := g) (ci := 6) (v := Value.ref (ad 10)) (C := RX6) (T := TX6) (N := 5) hx hb hts in_X6_addSeal_X6 hown hK.1 hP 0 (rfl) rfl 2 (by decide) (hts _ (List.mem_of_getElem? (i := 2) rfl) : (Cond.fieldLink RX6 28 "CordSeals$State" "seals" "LCordSeals$Seals;").before _ s = true) (fun _ h9 => h9) rfl dX6_addSeal_57 ?_
              refine va_get (D := g) (ci := 4) (v := Value.int (iI (R 10 0))) (C := RX4) (T := TX4) (N := 7) hx hb hts in_X6_addSeal_X4 hown hK.1 hP 10 (rfl) rfl 0 (by decide) (hts _ (List.mem_of_getElem? (i := 3) rfl) : (Cond.fieldLink RX6 51 "CordSeals$Seals" "count" "I").before _ s = true) (fun _ h9 => h9) rfl dX6_addSeal_60 ?_
              have hb_7 := hB 10 0
              refine lv_bipush (v := iI 24) hx hb dX6_addSeal_63 (by decide) ?_
              refine zi_icmp_lt (tgt := 71) hx hb ⟨by omega, by omega⟩ ⟨by decide, by decide⟩ dX6_addSeal_65 (by decide) (fun c_8 => ?_) (fun c_8 => ?_)
              · have _ := c_8
                refine lv_aload_n hx hb dX6_addSeal_71 rfl (lv_at hl 0 rfl) ?_
                refine va_get (D := g) (ci := 6) (v := Value.ref (ad 10)) (C := RX6) (T := TX6) (N := 5) hx hb hts in_X6_addSeal_X6 hown hK.1 hP 0 (rfl) rfl 2 (by decide) (hts _ (List.mem_of_getElem? (i := 2) rfl) : (Cond.fieldLink RX6 28 "CordSeals$State" "seals" "LCordSeals$Seals;").before _ s = true) (fun _ h9 => h9) rfl dX6_addSeal_72 ?_
                refine va_get (D := g) (ci := 4) (v := Value.ref (ad 11)) (C := RX4) (T := TX4) (N := 7) hx hb hts in_X6_addSeal_X4 hown hK.1 hP 10 (rfl) rfl 1 (by decide) (hts _ (List.mem_of_getElem? (i := 4) rfl) : (Cond.fieldLink RX6 160 "CordSeals$Seals" "die" "[I").before _ s = true) (fun _ h9 => h9) rfl dX6_addSeal_75 ?_
                refine lv_aload_n hx hb dX6_addSeal_78 rfl (lv_at hl 0 rfl) ?_
                refine va_get (D := g) (ci := 6) (v := Value.ref (ad 10)) (C := RX6) (T := TX6) (N := 5) hx hb hts in_X6_addSeal_X6 hown hK.1 hP 0 (rfl) rfl 2 (by decide) (hts _ (List.mem_of_getElem? (i := 2) rfl) : (Cond.fieldLink RX6 28 "CordSeals$State" "seals" "LCordSeals$Seals;").before _ s = true) (fun _ h9 => h9) rfl dX6_addSeal_79 ?_
                refine va_get (D := g) (ci := 4) (v := Value.int (iI (R 10 0))) (C := RX4) (T := TX4) (N := 7) hx hb hts in_X6_addSeal_X4 hown hK.1 hP 10 (rfl) rfl 0 (by decide) (hts _ (List.mem_of_getElem? (i := 3) rfl) : (Cond.fieldLink RX6 51 "CordSeals$Seals" "count" "I").before _ s = true) (fun _ h9 => h9) rfl dX6_addSeal_82 ?_
                have hb_9 := hB 10 0
                refine lv_iload_n hx hb dX6_addSeal_85 rfl (lv_at hl 1 rfl) ?_
                refine zi_ast hx hb hK hP hD hS 11 (f := (R 11)) (rfl) ((R 10 0).toNat) (by omega) (by omega) (by decide) dX6_addSeal_86 (wo := stW ad (u2 R 11 (updZ (R 11) ((R 10 0).toNat) d)) τ) rfl (fun H locs hP hD hS => ?_)
                refine lv_aload_n hx hb dX6_addSeal_87 rfl (lv_at hl 0 rfl) ?_
                refine va_get (D := g) (ci := 6) (v := Value.ref (ad 10)) (C := RX6) (T := TX6) (N := 5) hx hb hts in_X6_addSeal_X6 hown hK.1 hP 0 (rfl) rfl 2 (by decide) (hts _ (List.mem_of_getElem? (i := 2) rfl) : (Cond.fieldLink RX6 28 "CordSeals$State" "seals" "LCordSeals$Seals;").before _ s = true) (fun _ h9 => h9) rfl dX6_addSeal_88 ?_
                refine va_get (D := g) (ci := 4) (v := Value.ref (ad 12)) (C := RX4) (T := TX4) (N := 7) hx hb hts in_X6_addSeal_X4 hown hK.1 hP 10 (rfl) rfl 2 (by decide) (hts _ (List.mem_of_getElem? (i := 5) rfl) : (Cond.fieldLink RX6 163 "CordSeals$Seals" "material" "[I").before _ s = true) (fun _ h9 => h9) rfl dX6_addSeal_91 ?_
                refine lv_aload_n hx hb dX6_addSeal_94 rfl (lv_at hl 0 rfl) ?_
                refine va_get (D := g) (ci := 6) (v := Value.ref (ad 10)) (C := RX6) (T := TX6) (N := 5) hx hb hts in_X6_addSeal_X6 hown hK.1 hP 0 (rfl) rfl 2 (by decide) (hts _ (List.mem_of_getElem? (i := 2) rfl) : (Cond.fieldLink RX6 28 "CordSeals$State" "seals" "LCordSeals$Seals;").before _ s = true) (fun _ h9 => h9) rfl dX6_addSeal_95 ?_
                refine va_get (D := g) (ci := 4) (v := Value.int (iI (R 10 0))) (C := RX4) (T := TX4) (N := 7) hx hb hts in_X6_addSeal_X4 hown hK.1 hP 10 (rfl) rfl 0 (by decide) (hts _ (List.mem_of_getElem? (i := 3) rfl) : (Cond.fieldLink RX6 51 "CordSeals$Seals" "count" "I").before _ s = true) (fun _ h9 => h9) rfl dX6_addSeal_98 ?_
                have hb_10 := hB 10 0
                refine lv_iload_n hx hb dX6_addSeal_101 rfl (lv_at hl 2 rfl) ?_
                refine zi_ast hx hb hK hP hD hS 12 (f := (R 12)) (rfl) ((R 10 0).toNat) (by omega) (by omega) (by decide) dX6_addSeal_102 (wo := stW ad (u2 (u2 R 11 (updZ (R 11) ((R 10 0).toNat) d)) 12 (updZ (R 12) ((R 10 0).toNat) a)) τ) rfl (fun H locs hP hD hS => ?_)
                refine lv_aload_n hx hb dX6_addSeal_103 rfl (lv_at hl 0 rfl) ?_
                refine va_get (D := g) (ci := 6) (v := Value.ref (ad 10)) (C := RX6) (T := TX6) (N := 5) hx hb hts in_X6_addSeal_X6 hown hK.1 hP 0 (rfl) rfl 2 (by decide) (hts _ (List.mem_of_getElem? (i := 2) rfl) : (Cond.fieldLink RX6 28 "CordSeals$State" "seals" "LCordSeals$Seals;").before _ s = true) (fun _ h9 => h9) rfl dX6_addSeal_104 ?_
                refine va_get (D := g) (ci := 4) (v := Value.ref (ad 13)) (C := RX4) (T := TX4) (N := 7) hx hb hts in_X6_addSeal_X4 hown hK.1 hP 10 (rfl) rfl 3 (by decide) (hts _ (List.mem_of_getElem? (i := 6) rfl) : (Cond.fieldLink RX6 166 "CordSeals$Seals" "colour" "[I").before _ s = true) (fun _ h9 => h9) rfl dX6_addSeal_107 ?_
                refine lv_aload_n hx hb dX6_addSeal_110 rfl (lv_at hl 0 rfl) ?_
                refine va_get (D := g) (ci := 6) (v := Value.ref (ad 10)) (C := RX6) (T := TX6) (N := 5) hx hb hts in_X6_addSeal_X6 hown hK.1 hP 0 (rfl) rfl 2 (by decide) (hts _ (List.mem_of_getElem? (i := 2) rfl) : (Cond.fieldLink RX6 28 "CordSeals$State" "seals" "LCordSeals$Seals;").before _ s = true) (fun _ h9 => h9) rfl dX6_addSeal_111 ?_
                refine va_get (D := g) (ci := 4) (v := Value.int (iI (R 10 0))) (C := RX4) (T := TX4) (N := 7) hx hb hts in_X6_addSeal_X4 hown hK.1 hP 10 (rfl) rfl 0 (by decide) (hts _ (List.mem_of_getElem? (i := 3) rfl) : (Cond.fieldLink RX6 51 "CordSeals$Seals" "count" "I").before _ s = true) (fun _ h9 => h9) rfl dX6_addSeal_114 ?_
                have hb_11 := hB 10 0
                refine lv_iload_n hx hb dX6_addSeal_117 rfl (lv_at hl 3 rfl) ?_
                refine zi_ast hx hb hK hP hD hS 13 (f := (R 13)) (rfl) ((R 10 0).toNat) (by omega) (by omega) (by decide) dX6_addSeal_118 (wo := stW ad (u2 (u2 (u2 R 11 (updZ (R 11) ((R 10 0).toNat) d)) 12 (updZ (R 12) ((R 10 0).toNat) a)) 13 (updZ (R 13) ((R 10 0).toNat) q)) τ) rfl (fun H locs hP hD hS => ?_)
                refine lv_aload_n hx hb dX6_addSeal_119 rfl (lv_at hl 0 rfl) ?_
                refine va_get (D := g) (ci := 6) (v := Value.ref (ad 10)) (C := RX6) (T := TX6) (N := 5) hx hb hts in_X6_addSeal_X6 hown hK.1 hP 0 (rfl) rfl 2 (by decide) (hts _ (List.mem_of_getElem? (i := 2) rfl) : (Cond.fieldLink RX6 28 "CordSeals$State" "seals" "LCordSeals$Seals;").before _ s = true) (fun _ h9 => h9) rfl dX6_addSeal_120 ?_
                refine va_get (D := g) (ci := 4) (v := Value.ref (ad 14)) (C := RX4) (T := TX4) (N := 7) hx hb hts in_X6_addSeal_X4 hown hK.1 hP 10 (rfl) rfl 4 (by decide) (hts _ (List.mem_of_getElem? (i := 7) rfl) : (Cond.fieldLink RX6 168 "CordSeals$Seals" "bubbles" "[I").before _ s = true) (fun _ h9 => h9) rfl dX6_addSeal_123 ?_
                refine lv_aload_n hx hb dX6_addSeal_126 rfl (lv_at hl 0 rfl) ?_
                refine va_get (D := g) (ci := 6) (v := Value.ref (ad 10)) (C := RX6) (T := TX6) (N := 5) hx hb hts in_X6_addSeal_X6 hown hK.1 hP 0 (rfl) rfl 2 (by decide) (hts _ (List.mem_of_getElem? (i := 2) rfl) : (Cond.fieldLink RX6 28 "CordSeals$State" "seals" "LCordSeals$Seals;").before _ s = true) (fun _ h9 => h9) rfl dX6_addSeal_127 ?_
                refine va_get (D := g) (ci := 4) (v := Value.int (iI (R 10 0))) (C := RX4) (T := TX4) (N := 7) hx hb hts in_X6_addSeal_X4 hown hK.1 hP 10 (rfl) rfl 0 (by decide) (hts _ (List.mem_of_getElem? (i := 3) rfl) : (Cond.fieldLink RX6 51 "CordSeals$Seals" "count" "I").before _ s = true) (fun _ h9 => h9) rfl dX6_addSeal_130 ?_
                have hb_12 := hB 10 0
                refine lv_iload hx hb dX6_addSeal_133 (lv_at hl 4 rfl) ?_
                refine zi_ast hx hb hK hP hD hS 14 (f := (R 14)) (rfl) ((R 10 0).toNat) (by omega) (by omega) (by decide) dX6_addSeal_135 (wo := stW ad (u2 (u2 (u2 (u2 R 11 (updZ (R 11) ((R 10 0).toNat) d)) 12 (updZ (R 12) ((R 10 0).toNat) a)) 13 (updZ (R 13) ((R 10 0).toNat) q)) 14 (updZ (R 14) ((R 10 0).toNat) z)) τ) rfl (fun H locs hP hD hS => ?_)
                refine lv_aload_n hx hb dX6_addSeal_136 rfl (lv_at hl 0 rfl) ?_
                refine va_get (D := g) (ci := 6) (v := Value.ref (ad 10)) (C := RX6) (T := TX6) (N := 5) hx hb hts in_X6_addSeal_X6 hown hK.1 hP 0 (rfl) rfl 2 (by decide) (hts _ (List.mem_of_getElem? (i := 2) rfl) : (Cond.fieldLink RX6 28 "CordSeals$State" "seals" "LCordSeals$Seals;").before _ s = true) (fun _ h9 => h9) rfl dX6_addSeal_137 ?_
                refine va_get (D := g) (ci := 4) (v := Value.ref (ad 15)) (C := RX4) (T := TX4) (N := 7) hx hb hts in_X6_addSeal_X4 hown hK.1 hP 10 (rfl) rfl 5 (by decide) (hts _ (List.mem_of_getElem? (i := 8) rfl) : (Cond.fieldLink RX6 170 "CordSeals$Seals" "shown" "[I").before _ s = true) (fun _ h9 => h9) rfl dX6_addSeal_140 ?_
                refine lv_aload_n hx hb dX6_addSeal_143 rfl (lv_at hl 0 rfl) ?_
                refine va_get (D := g) (ci := 6) (v := Value.ref (ad 10)) (C := RX6) (T := TX6) (N := 5) hx hb hts in_X6_addSeal_X6 hown hK.1 hP 0 (rfl) rfl 2 (by decide) (hts _ (List.mem_of_getElem? (i := 2) rfl) : (Cond.fieldLink RX6 28 "CordSeals$State" "seals" "LCordSeals$Seals;").before _ s = true) (fun _ h9 => h9) rfl dX6_addSeal_144 ?_
                refine va_get (D := g) (ci := 4) (v := Value.int (iI (R 10 0))) (C := RX4) (T := TX4) (N := 7) hx hb hts in_X6_addSeal_X4 hown hK.1 hP 10 (rfl) rfl 0 (by decide) (hts _ (List.mem_of_getElem? (i := 3) rfl) : (Cond.fieldLink RX6 51 "CordSeals$Seals" "count" "I").before _ s = true) (fun _ h9 => h9) rfl dX6_addSeal_147 ?_
                have hb_13 := hB 10 0
                refine lv_iload hx hb dX6_addSeal_150 (lv_at hl 5 rfl) ?_
                refine zi_ast hx hb hK hP hD hS 15 (f := (R 15)) (rfl) ((R 10 0).toNat) (by omega) (by omega) (by decide) dX6_addSeal_152 (wo := stW ad (u2 (u2 (u2 (u2 (u2 R 11 (updZ (R 11) ((R 10 0).toNat) d)) 12 (updZ (R 12) ((R 10 0).toNat) a)) 13 (updZ (R 13) ((R 10 0).toNat) q)) 14 (updZ (R 14) ((R 10 0).toNat) z)) 15 (updZ (R 15) ((R 10 0).toNat) x)) τ) rfl (fun H locs hP hD hS => ?_)
                refine lv_aload_n hx hb dX6_addSeal_153 rfl (lv_at hl 0 rfl) ?_
                refine va_get (D := g) (ci := 6) (v := Value.ref (ad 10)) (C := RX6) (T := TX6) (N := 5) hx hb hts in_X6_addSeal_X6 hown hK.1 hP 0 (rfl) rfl 2 (by decide) (hts _ (List.mem_of_getElem? (i := 2) rfl) : (Cond.fieldLink RX6 28 "CordSeals$State" "seals" "LCordSeals$Seals;").before _ s = true) (fun _ h9 => h9) rfl dX6_addSeal_154 ?_
                refine va_get (D := g) (ci := 4) (v := Value.ref (ad 16)) (C := RX4) (T := TX4) (N := 7) hx hb hts in_X6_addSeal_X4 hown hK.1 hP 10 (rfl) rfl 6 (by decide) (hts _ (List.mem_of_getElem? (i := 9) rfl) : (Cond.fieldLink RX6 173 "CordSeals$Seals" "hangsOn" "[I").before _ s = true) (fun _ h9 => h9) rfl dX6_addSeal_157 ?_
                refine lv_aload_n hx hb dX6_addSeal_160 rfl (lv_at hl 0 rfl) ?_
                refine va_get (D := g) (ci := 6) (v := Value.ref (ad 10)) (C := RX6) (T := TX6) (N := 5) hx hb hts in_X6_addSeal_X6 hown hK.1 hP 0 (rfl) rfl 2 (by decide) (hts _ (List.mem_of_getElem? (i := 2) rfl) : (Cond.fieldLink RX6 28 "CordSeals$State" "seals" "LCordSeals$Seals;").before _ s = true) (fun _ h9 => h9) rfl dX6_addSeal_161 ?_
                refine va_get (D := g) (ci := 4) (v := Value.int (iI (R 10 0))) (C := RX4) (T := TX4) (N := 7) hx hb hts in_X6_addSeal_X4 hown hK.1 hP 10 (rfl) rfl 0 (by decide) (hts _ (List.mem_of_getElem? (i := 3) rfl) : (Cond.fieldLink RX6 51 "CordSeals$Seals" "count" "I").before _ s = true) (fun _ h9 => h9) rfl dX6_addSeal_164 ?_
                have hb_14 := hB 10 0
                refine lv_iconst (v := iI (-1)) hx hb dX6_addSeal_167 (by decide) ?_
                refine zi_ast hx hb hK hP hD hS 16 (f := (R 16)) (rfl) ((R 10 0).toNat) (by omega) (by omega) (by decide) dX6_addSeal_168 (wo := stW ad (u2 (u2 (u2 (u2 (u2 (u2 R 11 (updZ (R 11) ((R 10 0).toNat) d)) 12 (updZ (R 12) ((R 10 0).toNat) a)) 13 (updZ (R 13) ((R 10 0).toNat) q)) 14 (updZ (R 14) ((R 10 0).toNat) z)) 15 (updZ (R 15) ((R 10 0).toNat) x)) 16 (updZ (R 16) ((R 10 0).toNat) (-1))) τ) rfl (fun H locs hP hD hS => ?_)
                refine lv_aload_n hx hb dX6_addSeal_169 rfl (lv_at hl 0 rfl) ?_
                refine va_get (D := g) (ci := 6) (v := Value.ref (ad 10)) (C := RX6) (T := TX6) (N := 5) hx hb hts in_X6_addSeal_X6 hown hK.1 hP 0 (rfl) rfl 2 (by decide) (hts _ (List.mem_of_getElem? (i := 2) rfl) : (Cond.fieldLink RX6 28 "CordSeals$State" "seals" "LCordSeals$Seals;").before _ s = true) (fun _ h9 => h9) rfl dX6_addSeal_170 ?_
                refine lv_dup hx hb dX6_addSeal_173 rfl ?_
                refine va_get (D := g) (ci := 4) (v := Value.int (iI (R 10 0))) (C := RX4) (T := TX4) (N := 7) hx hb hts in_X6_addSeal_X4 hown hK.1 hP 10 (rfl) rfl 0 (by decide) (hts _ (List.mem_of_getElem? (i := 3) rfl) : (Cond.fieldLink RX6 51 "CordSeals$Seals" "count" "I").before _ s = true) (fun _ h9 => h9) rfl dX6_addSeal_174 ?_
                have hb_15 := hB 10 0
                refine lv_dup_x1 hx hb dX6_addSeal_177 rfl rfl ?_
                refine lv_iconst (v := iI 1) hx hb dX6_addSeal_178 (by decide) ?_
                refine zi_add hx hb dX6_addSeal_179 ?_
                refine va_put (D := g) (ci := 4) (v := Value.int (iI ((R 10 0) + 1))) (ty := .int) (C := RX4) (T := TX4) (N := 7) hx hb hts in_X6_addSeal_X4 tyX4 tyX4_ok nmX4 hown hK.1 hP hD hS 10 (rfl) rfl 0 (by decide) (hts _ (List.mem_of_getElem? (i := 3) rfl) : (Cond.fieldLink RX6 51 "CordSeals$Seals" "count" "I").before _ s = true) (fun _ h9 => h9) rfl (by decide +kernel) rfl rfl (Nat.le_of_ble_eq_true rfl) dX6_addSeal_180 (fun H locs hP hD hS => ?_)
                have hP : va_P g vwCl (stW ad (u2 (u2 (u2 (u2 (u2 (u2 (u2 R 11 (updZ (R 11) ((R 10 0).toNat) d)) 12 (updZ (R 12) ((R 10 0).toNat) a)) 13 (updZ (R 13) ((R 10 0).toNat) q)) 14 (updZ (R 14) ((R 10 0).toNat) z)) 15 (updZ (R 15) ((R 10 0).toNat) x)) 16 (updZ (R 16) ((R 10 0).toNat) (-1))) 10 (fun _ => (R 10 0) + 1)) τ) H := hP
                have hD : va_D A (stW ad (u2 (u2 (u2 (u2 (u2 (u2 (u2 R 11 (updZ (R 11) ((R 10 0).toNat) d)) 12 (updZ (R 12) ((R 10 0).toNat) a)) 13 (updZ (R 13) ((R 10 0).toNat) q)) 14 (updZ (R 14) ((R 10 0).toNat) z)) 15 (updZ (R 15) ((R 10 0).toNat) x)) 16 (updZ (R 16) ((R 10 0).toNat) (-1))) 10 (fun _ => (R 10 0) + 1)) τ) := hD
                exact rw_iret hx hb hr hlocks hP hS (by unfold aSeal; (repeat' split) <;> first | (exact ⟨rfl, rfl⟩) | (exfalso; omega) | (exfalso; simp_all; done) | (exfalso; simp_all; omega)) dX6_addSeal_183
              · have _ := c_8
                refine lv_bipush (v := iI (-4)) hx hb dX6_addSeal_68 (by decide) ?_
                exact rw_iret hx hb hr hlocks hP hS (by unfold aSeal; (repeat' split) <;> first | (exact ⟨rfl, rfl⟩) | (exfalso; omega) | (exfalso; simp_all; done) | (exfalso; simp_all; omega)) dX6_addSeal_70
            · have cd_c_6 := of_decide_eq_false c_6
              refine lv_bipush (v := iI (-3)) hx hb dX6_addSeal_53 (by decide) ?_
              exact rw_iret hx hb hr hlocks hP hS (by unfold aSeal; (repeat' split) <;> first | (exact ⟨rfl, rfl⟩) | (exfalso; omega) | (exfalso; simp_all; done) | (exfalso; simp_all; omega)) dX6_addSeal_55
  · have _ := c_1
    have hh : d < 0 ∨ R 4 0 ≤ d := by have := c_1; simp [dHas] at this; omega
    refine lv_bipush (v := iI (-2)) hx hb dX6_addSeal_11 (by decide) ?_
    exact rw_iret hx hb hr hlocks hP hS (by unfold aSeal; (repeat' split) <;> first | (exact ⟨rfl, rfl⟩) | (exfalso; omega) | (exfalso; simp_all; done) | (exfalso; simp_all; omega)) dX6_addSeal_13

theorem cd_X6_showCracks : cd yX6_showCracks 2 := by decide +kernel
theorem in_X6_showCracks_X4 : ∀ w ∈ wsX40, w ∈ wsX6_showCracks := by decide +kernel
theorem in_X6_showCracks_X6 : ∀ w ∈ wsX60, w ∈ wsX6_showCracks := by decide +kernel
set_option maxHeartbeats 4000000 in
set_option maxRecDepth 100000 in
theorem c_X6_showCracks (l : Launch) (g : va_G) (τ : Nat → ClassId) (ad : Nat → Nat) (R : Nat → Nat → Int) (hI : SI R) (t : Int) (rt : -2147483648 ≤ t ∧ t < 2147483648) (x : Int) (rx : -2147483648 ≤ x ∧ x < 2147483648)  : Met l yX6_showCracks wsX6_showCracks { frames := 1, cells := 0, slots := 0, locals := 22 } (va_Pc [Value.ref (ad 0), Value.int (iI t), Value.int (iI x)] (rwW g τ (stW ad R τ))) (rwQ g (fun v w => v = some (Value.int (iI (aShow R t x).1)) ∧ w = stW ad (aShow R t x).2 τ) (inW (stW ad R τ))) 0 0 (inW (stW ad R τ)) := by
  have hB := hI.hB
  have hr0 := hI.r
  have hd0 := hI.d
  have hs0 := hI.s
  refine rwMet (cc := cX6_showCracks) (maxL := 4) (ret := (some .int)) (lv := [(0, Value.ref (ad 0)), (1, Value.int (iI t)), (2, Value.int (iI x))]) (by decide) rfl (Nat.le_of_ble_eq_true rfl) rfl ?_
  intro p e s m below meth c hx hb hr hml hts hown hlocks A H hP hD hS hK ls hl
  refine lv_aload_n hx hb dX6_showCracks_0 rfl (lv_at hl 0 rfl) ?_
  refine va_get (D := g) (ci := 6) (v := Value.ref (ad 10)) (C := RX6) (T := TX6) (N := 5) hx hb hts in_X6_showCracks_X6 hown hK.1 hP 0 (rfl) rfl 2 (by decide) (hts _ (List.mem_of_getElem? (i := 1) rfl) : (Cond.fieldLink RX6 28 "CordSeals$State" "seals" "LCordSeals$Seals;").before _ s = true) (fun _ h9 => h9) rfl dX6_showCracks_1 ?_
  refine lv_iload_n hx hb dX6_showCracks_4 rfl (lv_at hl 1 rfl) ?_
  refine ro_V (As := [Value.int (iI t)]) (rest := []) (v := some (Value.int (iI (zB (dHas (R 10 0) t))))) ⟨hx, hb, hml, hown, hts⟩ (c_X4_has l g τ ad R hB t ⟨by omega, by omega⟩) gX6_showCracks_X4_has cd_X4_has rfl rfl ⟨rfl, rfl⟩ ⟨Nat.le_of_ble_eq_true rfl, Nat.le_of_ble_eq_true rfl⟩ hK (hP.sub [10, 11, 12, 13, 14, 15, 16] rfl) 0 rfl rfl rfl rfl hl rfl (Nat.le_of_ble_eq_true rfl) dX6_showCracks_5 ⟨Nat.le_of_ble_eq_true rfl, Nat.le_of_ble_eq_true rfl⟩ ?_
  refine tl_some ?_
  refine zb_if_ne (tgt := 14) hx hb dX6_showCracks_8 (by decide) (fun c_1 => ?_) (fun c_1 => ?_)
  · have _ := c_1
    have hh : 0 ≤ t ∧ t < R 10 0 := by simpa [dHas] using c_1
    have hss := hI.sl t.toNat (by omega)
    have hdd := hI.ds (R 11 t.toNat).toNat (by omega)
    have hp := pow_r (m := (R 8 (R 11 t.toNat).toNat).toNat) (by omega)
    refine lv_aload_n hx hb dX6_showCracks_14 rfl (lv_at hl 0 rfl) ?_
    refine va_get (D := g) (ci := 6) (v := Value.ref (ad 4)) (C := RX6) (T := TX6) (N := 5) hx hb hts in_X6_showCracks_X6 hown hK.1 hP 0 (rfl) rfl 1 (by decide) (hts _ (List.mem_of_getElem? (i := 2) rfl) : (Cond.fieldLink RX6 21 "CordSeals$State" "dies" "LCordSeals$Dies;").before _ s = true) (fun _ h9 => h9) rfl dX6_showCracks_15 ?_
    refine lv_aload_n hx hb dX6_showCracks_18 rfl (lv_at hl 0 rfl) ?_
    refine va_get (D := g) (ci := 6) (v := Value.ref (ad 10)) (C := RX6) (T := TX6) (N := 5) hx hb hts in_X6_showCracks_X6 hown hK.1 hP 0 (rfl) rfl 2 (by decide) (hts _ (List.mem_of_getElem? (i := 1) rfl) : (Cond.fieldLink RX6 28 "CordSeals$State" "seals" "LCordSeals$Seals;").before _ s = true) (fun _ h9 => h9) rfl dX6_showCracks_19 ?_
    refine va_get (D := g) (ci := 4) (v := Value.ref (ad 11)) (C := RX4) (T := TX4) (N := 7) hx hb hts in_X6_showCracks_X4 hown hK.1 hP 10 (rfl) rfl 1 (by decide) (hts _ (List.mem_of_getElem? (i := 3) rfl) : (Cond.fieldLink RX6 160 "CordSeals$Seals" "die" "[I").before _ s = true) (fun _ h9 => h9) rfl dX6_showCracks_22 ?_
    refine lv_iload_n hx hb dX6_showCracks_25 rfl (lv_at hl 1 rfl) ?_
    refine zi_ald hx hb hK hP 11 (f := (R 11)) (rfl) ((t).toNat) (by omega) (by omega) (by decide) dX6_showCracks_26 ?_
    have hb_2 := hB 11 ((t).toNat)
    refine cv_i (y := iI (((R 11 t.toNat).toNat : Nat) : Int)) (congrArg iI (by omega)) ?_
    refine lv_iload_n hx hb dX6_showCracks_27 rfl (lv_at hl 2 rfl) ?_
    refine ro_V (As := [Value.int (iI (((R 11 t.toNat).toNat : Nat) : Int)), Value.int (iI x)]) (rest := []) (v := some (Value.int (iI (zB (decide (0 ≤ x ∧ x < (2 : Int) ^ (R 8 ((R 11 t.toNat).toNat)).toNat)))))) ⟨hx, hb, hml, hown, hts⟩ (c_X0_hasCracks l g τ ad R hB ((R 11 t.toNat).toNat) (R 8 ((R 11 t.toNat).toNat)).toNat (by omega) (by omega) (by omega) x ⟨by omega, by omega⟩) gX6_showCracks_X0_hasCracks cd_X0_hasCracks rfl rfl ⟨rfl, rfl⟩ ⟨Nat.le_of_ble_eq_true rfl, Nat.le_of_ble_eq_true rfl⟩ hK (hP.sub [4, 5, 6, 7, 8, 9] rfl) 0 rfl rfl rfl rfl hl rfl (Nat.le_of_ble_eq_true rfl) dX6_showCracks_28 ⟨Nat.le_of_ble_eq_true rfl, Nat.le_of_ble_eq_true rfl⟩ ?_
    refine tl_some ?_
    refine zb_if_ne (tgt := 37) hx hb dX6_showCracks_31 (by decide) (fun c_3 => ?_) (fun c_3 => ?_)
    · have cd_c_3 := of_decide_eq_true c_3
      refine lv_aload_n hx hb dX6_showCracks_37 rfl (lv_at hl 0 rfl) ?_
      refine va_get (D := g) (ci := 6) (v := Value.ref (ad 10)) (C := RX6) (T := TX6) (N := 5) hx hb hts in_X6_showCracks_X6 hown hK.1 hP 0 (rfl) rfl 2 (by decide) (hts _ (List.mem_of_getElem? (i := 1) rfl) : (Cond.fieldLink RX6 28 "CordSeals$State" "seals" "LCordSeals$Seals;").before _ s = true) (fun _ h9 => h9) rfl dX6_showCracks_38 ?_
      refine va_get (D := g) (ci := 4) (v := Value.ref (ad 15)) (C := RX4) (T := TX4) (N := 7) hx hb hts in_X6_showCracks_X4 hown hK.1 hP 10 (rfl) rfl 5 (by decide) (hts _ (List.mem_of_getElem? (i := 4) rfl) : (Cond.fieldLink RX6 170 "CordSeals$Seals" "shown" "[I").before _ s = true) (fun _ h9 => h9) rfl dX6_showCracks_41 ?_
      refine lv_iload_n hx hb dX6_showCracks_44 rfl (lv_at hl 1 rfl) ?_
      refine zi_ald hx hb hK hP 15 (f := (R 15)) (rfl) ((t).toNat) (by omega) (by omega) (by decide) dX6_showCracks_45 ?_
      have hb_4 := hB 15 ((t).toNat)
      refine lv_istore_n (lv' := [(3, Value.int (iI (R 15 ((t).toNat)))), (0, Value.ref (ad 0)), (1, Value.int (iI t)), (2, Value.int (iI x))]) hx hb dX6_showCracks_46 rfl hl (by decide) rfl (fun ls hl => ?_)
      refine lv_aload_n hx hb dX6_showCracks_47 rfl (lv_at hl 1 rfl) ?_
      refine va_get (D := g) (ci := 6) (v := Value.ref (ad 10)) (C := RX6) (T := TX6) (N := 5) hx hb hts in_X6_showCracks_X6 hown hK.1 hP 0 (rfl) rfl 2 (by decide) (hts _ (List.mem_of_getElem? (i := 1) rfl) : (Cond.fieldLink RX6 28 "CordSeals$State" "seals" "LCordSeals$Seals;").before _ s = true) (fun _ h9 => h9) rfl dX6_showCracks_48 ?_
      refine va_get (D := g) (ci := 4) (v := Value.ref (ad 15)) (C := RX4) (T := TX4) (N := 7) hx hb hts in_X6_showCracks_X4 hown hK.1 hP 10 (rfl) rfl 5 (by decide) (hts _ (List.mem_of_getElem? (i := 4) rfl) : (Cond.fieldLink RX6 170 "CordSeals$Seals" "shown" "[I").before _ s = true) (fun _ h9 => h9) rfl dX6_showCracks_51 ?_
      refine lv_iload_n hx hb dX6_showCracks_54 rfl (lv_at hl 2 rfl) ?_
      refine lv_iload_n hx hb dX6_showCracks_55 rfl (lv_at hl 3 rfl) ?_
      refine zi_ast hx hb hK hP hD hS 15 (f := (R 15)) (rfl) ((t).toNat) (by omega) (by omega) (by decide) dX6_showCracks_56 (wo := stW ad (u2 R 15 (updZ (R 15) ((t).toNat) x)) τ) rfl (fun H locs hP hD hS => ?_)
      refine lv_iload_n hx hb dX6_showCracks_57 rfl (lv_at hl 0 rfl) ?_
      exact rw_iret hx hb hr hlocks hP hS (by unfold aShow; (repeat' split) <;> first | (exact ⟨rfl, rfl⟩) | (exfalso; omega) | (exfalso; simp_all; done) | (exfalso; simp_all; omega)) dX6_showCracks_58
    · have cd_c_3 := of_decide_eq_false c_3
      refine lv_bipush (v := iI (-3)) hx hb dX6_showCracks_34 (by decide) ?_
      exact rw_iret hx hb hr hlocks hP hS (by unfold aShow; (repeat' split) <;> first | (exact ⟨rfl, rfl⟩) | (exfalso; omega) | (exfalso; simp_all; done) | (exfalso; simp_all; omega)) dX6_showCracks_36
  · have _ := c_1
    have hh : t < 0 ∨ R 10 0 ≤ t := by have := c_1; simp [dHas] at this; omega
    refine lv_bipush (v := iI (-2)) hx hb dX6_showCracks_11 (by decide) ?_
    exact rw_iret hx hb hr hlocks hP hS (by unfold aShow; (repeat' split) <;> first | (exact ⟨rfl, rfl⟩) | (exfalso; omega) | (exfalso; simp_all; done) | (exfalso; simp_all; omega)) dX6_showCracks_13

theorem cd_X6_hangOn : cd yX6_hangOn 2 := by decide +kernel
theorem in_X6_hangOn_X4 : ∀ w ∈ wsX40, w ∈ wsX6_hangOn := by decide +kernel
theorem in_X6_hangOn_X6 : ∀ w ∈ wsX60, w ∈ wsX6_hangOn := by decide +kernel
set_option maxHeartbeats 4000000 in
set_option maxRecDepth 100000 in
theorem c_X6_hangOn (l : Launch) (g : va_G) (τ : Nat → ClassId) (ad : Nat → Nat) (R : Nat → Nat → Int) (hI : SI R) (t : Int) (rt : -2147483648 ≤ t ∧ t < 2147483648) (q : Int) (rq : -2147483648 ≤ q ∧ q < 2147483648)  : Met l yX6_hangOn wsX6_hangOn { frames := 1, cells := 0, slots := 0, locals := 23 } (va_Pc [Value.ref (ad 0), Value.int (iI t), Value.int (iI q)] (rwW g τ (stW ad R τ))) (rwQ g (fun v w => v = some (Value.int (iI (aHang R t q).1)) ∧ w = stW ad (aHang R t q).2 τ) (inW (stW ad R τ))) 0 0 (inW (stW ad R τ)) := by
  have hB := hI.hB
  have hr0 := hI.r
  have hd0 := hI.d
  have hs0 := hI.s
  refine rwMet (cc := cX6_hangOn) (maxL := 3) (ret := (some .int)) (lv := [(0, Value.ref (ad 0)), (1, Value.int (iI t)), (2, Value.int (iI q))]) (by decide) rfl (Nat.le_of_ble_eq_true rfl) rfl ?_
  intro p e s m below meth c hx hb hr hml hts hown hlocks A H hP hD hS hK ls hl
  refine lv_aload_n hx hb dX6_hangOn_0 rfl (lv_at hl 0 rfl) ?_
  refine va_get (D := g) (ci := 6) (v := Value.ref (ad 10)) (C := RX6) (T := TX6) (N := 5) hx hb hts in_X6_hangOn_X6 hown hK.1 hP 0 (rfl) rfl 2 (by decide) (hts _ (List.mem_of_getElem? (i := 1) rfl) : (Cond.fieldLink RX6 28 "CordSeals$State" "seals" "LCordSeals$Seals;").before _ s = true) (fun _ h9 => h9) rfl dX6_hangOn_1 ?_
  refine lv_iload_n hx hb dX6_hangOn_4 rfl (lv_at hl 1 rfl) ?_
  refine ro_V (As := [Value.int (iI t)]) (rest := []) (v := some (Value.int (iI (zB (dHas (R 10 0) t))))) ⟨hx, hb, hml, hown, hts⟩ (c_X4_has l g τ ad R hB t ⟨by omega, by omega⟩) gX6_hangOn_X4_has cd_X4_has rfl rfl ⟨rfl, rfl⟩ ⟨Nat.le_of_ble_eq_true rfl, Nat.le_of_ble_eq_true rfl⟩ hK (hP.sub [10, 11, 12, 13, 14, 15, 16] rfl) 0 rfl rfl rfl rfl hl rfl (Nat.le_of_ble_eq_true rfl) dX6_hangOn_5 ⟨Nat.le_of_ble_eq_true rfl, Nat.le_of_ble_eq_true rfl⟩ ?_
  refine tl_some ?_
  refine zb_if_eq (tgt := 18) hx hb dX6_hangOn_8 (by decide) (fun c_1 => ?_) (fun c_1 => ?_)
  · have _ := c_1
    have hh : t < 0 ∨ R 10 0 ≤ t := by have := c_1; simp [dHas] at this; omega
    refine lv_bipush (v := iI (-2)) hx hb dX6_hangOn_18 (by decide) ?_
    exact rw_iret hx hb hr hlocks hP hS (by unfold aHang; (repeat' split) <;> first | (exact ⟨rfl, rfl⟩) | (exfalso; omega) | (exfalso; simp_all; done) | (exfalso; simp_all; omega)) dX6_hangOn_20
  · have _ := c_1
    have hh : 0 ≤ t ∧ t < R 10 0 := by simpa [dHas] using c_1
    have hss := hI.sl t.toNat (by omega)
    refine lv_iload_n hx hb dX6_hangOn_11 rfl (lv_at hl 2 rfl) ?_
    refine ro_SN (As := [Value.int (iI q)]) (rest := []) (v := some (Value.int (iI (zB (decide (0 ≤ q ∧ q < 6)))))) ⟨hx, hb, hml, hown, hts⟩ (c_X9_isCharter l g τ q ⟨by omega, by omega⟩) gX6_hangOn_X9_isCharter_n176 cd_X9_isCharter rfl ⟨rfl, rfl⟩ ⟨Nat.le_of_ble_eq_true rfl, Nat.le_of_ble_eq_true rfl⟩ hK (by decide +kernel) (List.mem_of_getElem? (i := 10) rfl) (List.mem_of_getElem? (i := 9) rfl) (fun _ _ h => by cases h) rfl hl rfl (Nat.le_of_ble_eq_true rfl) dX6_hangOn_12 ⟨Nat.le_of_ble_eq_true rfl, Nat.le_of_ble_eq_true rfl⟩ ?_
    refine tl_some ?_
    refine zb_if_ne (tgt := 21) hx hb dX6_hangOn_15 (by decide) (fun c_2 => ?_) (fun c_2 => ?_)
    · have cd_c_2 := of_decide_eq_true c_2
      refine lv_aload_n hx hb dX6_hangOn_21 rfl (lv_at hl 0 rfl) ?_
      refine va_get (D := g) (ci := 6) (v := Value.ref (ad 10)) (C := RX6) (T := TX6) (N := 5) hx hb hts in_X6_hangOn_X6 hown hK.1 hP 0 (rfl) rfl 2 (by decide) (hts _ (List.mem_of_getElem? (i := 1) rfl) : (Cond.fieldLink RX6 28 "CordSeals$State" "seals" "LCordSeals$Seals;").before _ s = true) (fun _ h9 => h9) rfl dX6_hangOn_22 ?_
      refine va_get (D := g) (ci := 4) (v := Value.ref (ad 16)) (C := RX4) (T := TX4) (N := 7) hx hb hts in_X6_hangOn_X4 hown hK.1 hP 10 (rfl) rfl 6 (by decide) (hts _ (List.mem_of_getElem? (i := 2) rfl) : (Cond.fieldLink RX6 173 "CordSeals$Seals" "hangsOn" "[I").before _ s = true) (fun _ h9 => h9) rfl dX6_hangOn_25 ?_
      refine lv_iload_n hx hb dX6_hangOn_28 rfl (lv_at hl 1 rfl) ?_
      refine lv_iload_n hx hb dX6_hangOn_29 rfl (lv_at hl 2 rfl) ?_
      refine zi_ast hx hb hK hP hD hS 16 (f := (R 16)) (rfl) ((t).toNat) (by omega) (by omega) (by decide) dX6_hangOn_30 (wo := stW ad (u2 R 16 (updZ (R 16) ((t).toNat) q)) τ) rfl (fun H locs hP hD hS => ?_)
      refine lv_aload_n hx hb dX6_hangOn_31 rfl (lv_at hl 0 rfl) ?_
      refine va_get (D := g) (ci := 6) (v := Value.ref (ad 10)) (C := RX6) (T := TX6) (N := 5) hx hb hts in_X6_hangOn_X6 hown hK.1 hP 0 (rfl) rfl 2 (by decide) (hts _ (List.mem_of_getElem? (i := 1) rfl) : (Cond.fieldLink RX6 28 "CordSeals$State" "seals" "LCordSeals$Seals;").before _ s = true) (fun _ h9 => h9) rfl dX6_hangOn_32 ?_
      refine lv_iload_n hx hb dX6_hangOn_35 rfl (lv_at hl 2 rfl) ?_
      refine ro_V (As := [Value.int (iI q)]) (rest := []) (v := some (Value.int (iI (cnt (fun s => decide ((updZ (R 16) ((t).toNat) q) s = q)) (R 10 0).toNat)))) ⟨hx, hb, hml, hown, hts⟩ (c_X4_ofOneCharter l g τ ad (u2 R 16 (updZ (R 16) ((t).toNat) q)) (HB_u hB (HB_upd (hB 16) ⟨by omega, by omega⟩)) (R 10 0).toNat (by omega) (by show R 10 0 = _; omega) q ⟨by omega, by omega⟩) gX6_hangOn_X4_ofOneCharter cd_X4_ofOneCharter rfl rfl ⟨rfl, rfl⟩ ⟨Nat.le_of_ble_eq_true rfl, Nat.le_of_ble_eq_true rfl⟩ hK (hP.sub [10, 11, 12, 13, 14, 15, 16] rfl) 0 rfl rfl rfl rfl hl rfl (Nat.le_of_ble_eq_true rfl) dX6_hangOn_36 ⟨Nat.le_of_ble_eq_true rfl, Nat.le_of_ble_eq_true rfl⟩ ?_
      refine tl_some ?_
      exact rw_iret hx hb hr hlocks hP hS (by unfold aHang; (repeat' split) <;> first | (exact ⟨rfl, rfl⟩) | (exfalso; omega) | (exfalso; simp_all; done) | (exfalso; simp_all; omega)) dX6_hangOn_39
    · have cd_c_2 := of_decide_eq_false c_2
      refine lv_bipush (v := iI (-2)) hx hb dX6_hangOn_18 (by decide) ?_
      exact rw_iret hx hb hr hlocks hP hS (by unfold aHang; (repeat' split) <;> first | (exact ⟨rfl, rfl⟩) | (exfalso; omega) | (exfalso; simp_all; done) | (exfalso; simp_all; omega)) dX6_hangOn_20

theorem cd_X6_cutOff : cd yX6_cutOff 1 := by decide +kernel
theorem in_X6_cutOff_X4 : ∀ w ∈ wsX40, w ∈ wsX6_cutOff := by decide +kernel
theorem in_X6_cutOff_X6 : ∀ w ∈ wsX60, w ∈ wsX6_cutOff := by decide +kernel
set_option maxHeartbeats 4000000 in
set_option maxRecDepth 100000 in
theorem c_X6_cutOff (l : Launch) (g : va_G) (τ : Nat → ClassId) (ad : Nat → Nat) (R : Nat → Nat → Int) (hI : SI R) (t : Int) (rt : -2147483648 ≤ t ∧ t < 2147483648)  : Met l yX6_cutOff wsX6_cutOff { frames := 1, cells := 0, slots := 0, locals := 21 } (va_Pc [Value.ref (ad 0), Value.int (iI t)] (rwW g τ (stW ad R τ))) (rwQ g (fun v w => v = some (Value.int (iI (aCut R t).1)) ∧ w = stW ad (aCut R t).2 τ) (inW (stW ad R τ))) 0 0 (inW (stW ad R τ)) := by
  have hB := hI.hB
  have hr0 := hI.r
  have hd0 := hI.d
  have hs0 := hI.s
  refine rwMet (cc := cX6_cutOff) (maxL := 3) (ret := (some .int)) (lv := [(0, Value.ref (ad 0)), (1, Value.int (iI t))]) (by decide) rfl (Nat.le_of_ble_eq_true rfl) rfl ?_
  intro p e s m below meth c hx hb hr hml hts hown hlocks A H hP hD hS hK ls hl
  refine lv_aload_n hx hb dX6_cutOff_0 rfl (lv_at hl 0 rfl) ?_
  refine va_get (D := g) (ci := 6) (v := Value.ref (ad 10)) (C := RX6) (T := TX6) (N := 5) hx hb hts in_X6_cutOff_X6 hown hK.1 hP 0 (rfl) rfl 2 (by decide) (hts _ (List.mem_of_getElem? (i := 1) rfl) : (Cond.fieldLink RX6 28 "CordSeals$State" "seals" "LCordSeals$Seals;").before _ s = true) (fun _ h9 => h9) rfl dX6_cutOff_1 ?_
  refine lv_iload_n hx hb dX6_cutOff_4 rfl (lv_at hl 1 rfl) ?_
  refine ro_V (As := [Value.int (iI t)]) (rest := []) (v := some (Value.int (iI (zB (dHas (R 10 0) t))))) ⟨hx, hb, hml, hown, hts⟩ (c_X4_has l g τ ad R hB t ⟨by omega, by omega⟩) gX6_cutOff_X4_has cd_X4_has rfl rfl ⟨rfl, rfl⟩ ⟨Nat.le_of_ble_eq_true rfl, Nat.le_of_ble_eq_true rfl⟩ hK (hP.sub [10, 11, 12, 13, 14, 15, 16] rfl) 0 rfl rfl rfl rfl hl rfl (Nat.le_of_ble_eq_true rfl) dX6_cutOff_5 ⟨Nat.le_of_ble_eq_true rfl, Nat.le_of_ble_eq_true rfl⟩ ?_
  refine tl_some ?_
  refine zb_if_ne (tgt := 14) hx hb dX6_cutOff_8 (by decide) (fun c_1 => ?_) (fun c_1 => ?_)
  · have _ := c_1
    have hh : 0 ≤ t ∧ t < R 10 0 := by simpa [dHas] using c_1
    have hss := hI.sl t.toNat (by omega)
    refine lv_aload_n hx hb dX6_cutOff_14 rfl (lv_at hl 0 rfl) ?_
    refine va_get (D := g) (ci := 6) (v := Value.ref (ad 10)) (C := RX6) (T := TX6) (N := 5) hx hb hts in_X6_cutOff_X6 hown hK.1 hP 0 (rfl) rfl 2 (by decide) (hts _ (List.mem_of_getElem? (i := 1) rfl) : (Cond.fieldLink RX6 28 "CordSeals$State" "seals" "LCordSeals$Seals;").before _ s = true) (fun _ h9 => h9) rfl dX6_cutOff_15 ?_
    refine va_get (D := g) (ci := 4) (v := Value.ref (ad 16)) (C := RX4) (T := TX4) (N := 7) hx hb hts in_X6_cutOff_X4 hown hK.1 hP 10 (rfl) rfl 6 (by decide) (hts _ (List.mem_of_getElem? (i := 2) rfl) : (Cond.fieldLink RX6 173 "CordSeals$Seals" "hangsOn" "[I").before _ s = true) (fun _ h9 => h9) rfl dX6_cutOff_18 ?_
    refine lv_iload_n hx hb dX6_cutOff_21 rfl (lv_at hl 1 rfl) ?_
    refine zi_ald hx hb hK hP 16 (f := (R 16)) (rfl) ((t).toNat) (by omega) (by omega) (by decide) dX6_cutOff_22 ?_
    have hb_2 := hB 16 ((t).toNat)
    refine lv_istore_n (lv' := [(2, Value.int (iI (R 16 ((t).toNat)))), (0, Value.ref (ad 0)), (1, Value.int (iI t))]) hx hb dX6_cutOff_23 rfl hl (by decide) rfl (fun ls hl => ?_)
    refine lv_iload_n hx hb dX6_cutOff_24 rfl (lv_at hl 0 rfl) ?_
    refine lv_iconst (v := iI (-1)) hx hb dX6_cutOff_25 (by decide) ?_
    refine zi_icmp_ne (tgt := 32) hx hb ⟨by omega, by omega⟩ ⟨by decide, by decide⟩ dX6_cutOff_26 (by decide) (fun c_3 => ?_) (fun c_3 => ?_)
    · have _ := c_3
      refine lv_aload_n hx hb dX6_cutOff_32 rfl (lv_at hl 1 rfl) ?_
      refine va_get (D := g) (ci := 6) (v := Value.ref (ad 10)) (C := RX6) (T := TX6) (N := 5) hx hb hts in_X6_cutOff_X6 hown hK.1 hP 0 (rfl) rfl 2 (by decide) (hts _ (List.mem_of_getElem? (i := 1) rfl) : (Cond.fieldLink RX6 28 "CordSeals$State" "seals" "LCordSeals$Seals;").before _ s = true) (fun _ h9 => h9) rfl dX6_cutOff_33 ?_
      refine va_get (D := g) (ci := 4) (v := Value.ref (ad 16)) (C := RX4) (T := TX4) (N := 7) hx hb hts in_X6_cutOff_X4 hown hK.1 hP 10 (rfl) rfl 6 (by decide) (hts _ (List.mem_of_getElem? (i := 2) rfl) : (Cond.fieldLink RX6 173 "CordSeals$Seals" "hangsOn" "[I").before _ s = true) (fun _ h9 => h9) rfl dX6_cutOff_36 ?_
      refine lv_iload_n hx hb dX6_cutOff_39 rfl (lv_at hl 2 rfl) ?_
      refine lv_iconst (v := iI (-1)) hx hb dX6_cutOff_40 (by decide) ?_
      refine zi_ast hx hb hK hP hD hS 16 (f := (R 16)) (rfl) ((t).toNat) (by omega) (by omega) (by decide) dX6_cutOff_41 (wo := stW ad (u2 R 16 (updZ (R 16) ((t).toNat) (-1))) τ) rfl (fun H locs hP hD hS => ?_)
      refine lv_iload_n hx hb dX6_cutOff_42 rfl (lv_at hl 0 rfl) ?_
      exact rw_iret hx hb hr hlocks hP hS (by unfold aCut; (repeat' split) <;> first | (exact ⟨rfl, rfl⟩) | (exfalso; omega) | (exfalso; simp_all; done) | (exfalso; simp_all; omega)) dX6_cutOff_43
    · have _ := c_3
      refine lv_bipush (v := iI (-4)) hx hb dX6_cutOff_29 (by decide) ?_
      exact rw_iret hx hb hr hlocks hP hS (by unfold aCut; (repeat' split) <;> first | (exact ⟨rfl, rfl⟩) | (exfalso; omega) | (exfalso; simp_all; done) | (exfalso; simp_all; omega)) dX6_cutOff_31
  · have _ := c_1
    have hh : t < 0 ∨ R 10 0 ≤ t := by have := c_1; simp [dHas] at this; omega
    refine lv_bipush (v := iI (-2)) hx hb dX6_cutOff_11 (by decide) ?_
    exact rw_iret hx hb hr hlocks hP hS (by unfold aCut; (repeat' split) <;> first | (exact ⟨rfl, rfl⟩) | (exfalso; omega) | (exfalso; simp_all; done) | (exfalso; simp_all; omega)) dX6_cutOff_13

theorem cd_X6_change : cd yX6_change 2 := by decide +kernel
theorem in_X6_change_X6 : ∀ w ∈ wsX60, w ∈ wsX6_change := by decide +kernel
set_option maxHeartbeats 4000000 in
set_option maxRecDepth 100000 in
theorem c_X6_change (l : Launch) (g : va_G) (τ : Nat → ClassId) (ad : Nat → Nat) (R : Nat → Nat → Int) (hI : SI R) (a : Int) (ra : -2147483648 ≤ a ∧ a < 2147483648) (x : Int) (rx : -2147483648 ≤ x ∧ x < 2147483648)  : Met l yX6_change wsX6_change { frames := 1, cells := 0, slots := 0, locals := 20 } (va_Pc [Value.ref (ad 0), Value.int (iI a), Value.int (iI x)] (rwW g τ (stW ad R τ))) (rwQ g (fun v w => v = some (Value.int (iI (aSet R a x).1)) ∧ w = stW ad (aSet R a x).2 τ) (inW (stW ad R τ))) 0 0 (inW (stW ad R τ)) := by
  have hB := hI.hB
  have hr0 := hI.r
  have hd0 := hI.d
  have hs0 := hI.s
  refine rwMet (cc := cX6_change) (maxL := 4) (ret := (some .int)) (lv := [(0, Value.ref (ad 0)), (1, Value.int (iI a)), (2, Value.int (iI x))]) (by decide) rfl (Nat.le_of_ble_eq_true rfl) rfl ?_
  intro p e s m below meth c hx hb hr hml hts hown hlocks A H hP hD hS hK ls hl
  refine lv_iload_n hx hb dX6_change_0 rfl (lv_at hl 1 rfl) ?_
  refine ro_SN (As := [Value.int (iI a)]) (rest := []) (v := some (Value.int (iI (zB (decide (0 ≤ a ∧ a < 2)))))) ⟨hx, hb, hml, hown, hts⟩ (c_X9_isMaterial l g τ a ⟨by omega, by omega⟩) gX6_change_X9_isMaterial_n151 cd_X9_isMaterial rfl ⟨rfl, rfl⟩ ⟨Nat.le_of_ble_eq_true rfl, Nat.le_of_ble_eq_true rfl⟩ hK (by decide +kernel) (List.mem_of_getElem? (i := 3) rfl) (List.mem_of_getElem? (i := 2) rfl) (fun _ _ h => by cases h) rfl hl rfl (Nat.le_of_ble_eq_true rfl) dX6_change_1 ⟨Nat.le_of_ble_eq_true rfl, Nat.le_of_ble_eq_true rfl⟩ ?_
  refine tl_some ?_
  refine zb_if_eq (tgt := 14) hx hb dX6_change_4 (by decide) (fun c_1 => ?_) (fun c_1 => ?_)
  · have cd_c_1 := of_decide_eq_false c_1
    refine lv_bipush (v := iI (-3)) hx hb dX6_change_14 (by decide) ?_
    exact rw_iret hx hb hr hlocks hP hS (by unfold aSet; (repeat' split) <;> first | (exact ⟨rfl, rfl⟩) | (exfalso; omega) | (exfalso; simp_all; done) | (exfalso; simp_all; omega)) dX6_change_16
  · have cd_c_1 := of_decide_eq_true c_1
    refine lv_iload_n hx hb dX6_change_7 rfl (lv_at hl 2 rfl) ?_
    refine ro_SN (As := [Value.int (iI x)]) (rest := []) (v := some (Value.int (iI (zB (decide (0 ≤ x ∧ x ≤ 99)))))) ⟨hx, hb, hml, hown, hts⟩ (c_X9_isBubbles l g τ x ⟨by omega, by omega⟩) gX6_change_X9_isBubbles_n154 cd_X9_isBubbles rfl ⟨rfl, rfl⟩ ⟨Nat.le_of_ble_eq_true rfl, Nat.le_of_ble_eq_true rfl⟩ hK (by decide +kernel) (List.mem_of_getElem? (i := 3) rfl) (List.mem_of_getElem? (i := 5) rfl) (fun _ _ h => by cases h) rfl hl rfl (Nat.le_of_ble_eq_true rfl) dX6_change_8 ⟨Nat.le_of_ble_eq_true rfl, Nat.le_of_ble_eq_true rfl⟩ ?_
    refine tl_some ?_
    refine zb_if_ne (tgt := 17) hx hb dX6_change_11 (by decide) (fun c_2 => ?_) (fun c_2 => ?_)
    · have cd_c_2 := of_decide_eq_true c_2
      refine lv_aload_n hx hb dX6_change_17 rfl (lv_at hl 0 rfl) ?_
      refine va_get (D := g) (ci := 6) (v := Value.ref (ad 20)) (C := RX6) (T := TX6) (N := 5) hx hb hts in_X6_change_X6 hown hK.1 hP 0 (rfl) rfl 4 (by decide) (hts _ (List.mem_of_getElem? (i := 1) rfl) : (Cond.fieldLink RX6 39 "CordSeals$State" "settings" "[I").before _ s = true) (fun _ h9 => h9) rfl dX6_change_18 ?_
      refine lv_iload_n hx hb dX6_change_21 rfl (lv_at hl 1 rfl) ?_
      refine zi_ald hx hb hK hP 20 (f := (R 20)) (rfl) ((a).toNat) (by omega) (by omega) (by decide) dX6_change_22 ?_
      have hb_3 := hB 20 ((a).toNat)
      refine lv_istore_n (lv' := [(3, Value.int (iI (R 20 ((a).toNat)))), (0, Value.ref (ad 0)), (1, Value.int (iI a)), (2, Value.int (iI x))]) hx hb dX6_change_23 rfl hl (by decide) rfl (fun ls hl => ?_)
      refine lv_aload_n hx hb dX6_change_24 rfl (lv_at hl 1 rfl) ?_
      refine va_get (D := g) (ci := 6) (v := Value.ref (ad 20)) (C := RX6) (T := TX6) (N := 5) hx hb hts in_X6_change_X6 hown hK.1 hP 0 (rfl) rfl 4 (by decide) (hts _ (List.mem_of_getElem? (i := 1) rfl) : (Cond.fieldLink RX6 39 "CordSeals$State" "settings" "[I").before _ s = true) (fun _ h9 => h9) rfl dX6_change_25 ?_
      refine lv_iload_n hx hb dX6_change_28 rfl (lv_at hl 2 rfl) ?_
      refine lv_iload_n hx hb dX6_change_29 rfl (lv_at hl 3 rfl) ?_
      refine zi_ast hx hb hK hP hD hS 20 (f := (R 20)) (rfl) ((a).toNat) (by omega) (by omega) (by decide) dX6_change_30 (wo := stW ad (u2 R 20 (updZ (R 20) ((a).toNat) x)) τ) rfl (fun H locs hP hD hS => ?_)
      refine lv_iload_n hx hb dX6_change_31 rfl (lv_at hl 0 rfl) ?_
      exact rw_iret hx hb hr hlocks hP hS (by unfold aSet; (repeat' split) <;> first | (exact ⟨rfl, rfl⟩) | (exfalso; omega) | (exfalso; simp_all; done) | (exfalso; simp_all; omega)) dX6_change_32
    · have cd_c_2 := of_decide_eq_false c_2
      refine lv_bipush (v := iI (-3)) hx hb dX6_change_14 (by decide) ?_
      exact rw_iret hx hb hr hlocks hP hS (by unfold aSet; (repeat' split) <;> first | (exact ⟨rfl, rfl⟩) | (exfalso; omega) | (exfalso; simp_all; done) | (exfalso; simp_all; omega)) dX6_change_16

theorem cd_X6_houseOf : cd yX6_houseOf 1 := by decide +kernel
theorem in_X6_houseOf_X0 : ∀ w ∈ wsX00, w ∈ wsX6_houseOf := by decide +kernel
theorem in_X6_houseOf_X4 : ∀ w ∈ wsX40, w ∈ wsX6_houseOf := by decide +kernel
theorem in_X6_houseOf_X6 : ∀ w ∈ wsX60, w ∈ wsX6_houseOf := by decide +kernel
set_option maxHeartbeats 4000000 in
set_option maxRecDepth 100000 in
theorem c_X6_houseOf (l : Launch) (g : va_G) (τ : Nat → ClassId) (ad : Nat → Nat) (R : Nat → Nat → Int) (hI : SI R) (t : Nat) (ht : (t : Int) < R 10 0) : Met l yX6_houseOf wsX6_houseOf { frames := 0, cells := 0, slots := 0, locals := 0 } (va_Pc [Value.ref (ad 0), Value.int (iI (t : Int))] (roW g τ (stW ad R τ))) (roQ (some (Value.int (iI (hsO R t))))) 0 0 nof := by
  have hB := hI.hB
  have hr0 := hI.r
  have hd0 := hI.d
  have hs0 := hI.s
  have hss := hI.sl t ht
  refine roMet (cc := cX6_houseOf) (maxL := 2) (ret := (some .int)) (lv := [(0, Value.ref (ad 0)), (1, Value.int (iI (t : Int)))]) (by decide) rfl (Nat.le_of_ble_eq_true rfl) rfl ?_
  intro p e s m below meth c hx hb hr hml hts hown hlocks hP hK ls hl
  refine lv_aload_n hx hb dX6_houseOf_0 rfl (lv_at hl 0 rfl) ?_
  refine va_get (D := g) (ci := 6) (v := Value.ref (ad 4)) (C := RX6) (T := TX6) (N := 5) hx hb hts in_X6_houseOf_X6 hown hK.1 hP 0 (rfl) rfl 1 (by decide) (hts _ (List.mem_of_getElem? (i := 1) rfl) : (Cond.fieldLink RX6 21 "CordSeals$State" "dies" "LCordSeals$Dies;").before _ s = true) (fun _ h9 => h9) rfl dX6_houseOf_1 ?_
  refine va_get (D := g) (ci := 0) (v := Value.ref (ad 5)) (C := RX0) (T := TX0) (N := 6) hx hb hts in_X6_houseOf_X0 hown hK.1 hP 4 (rfl) rfl 1 (by decide) (hts _ (List.mem_of_getElem? (i := 2) rfl) : (Cond.fieldLink RX6 129 "CordSeals$Dies" "house" "[I").before _ s = true) (fun _ h9 => h9) rfl dX6_houseOf_4 ?_
  refine lv_aload_n hx hb dX6_houseOf_7 rfl (lv_at hl 0 rfl) ?_
  refine va_get (D := g) (ci := 6) (v := Value.ref (ad 10)) (C := RX6) (T := TX6) (N := 5) hx hb hts in_X6_houseOf_X6 hown hK.1 hP 0 (rfl) rfl 2 (by decide) (hts _ (List.mem_of_getElem? (i := 3) rfl) : (Cond.fieldLink RX6 28 "CordSeals$State" "seals" "LCordSeals$Seals;").before _ s = true) (fun _ h9 => h9) rfl dX6_houseOf_8 ?_
  refine va_get (D := g) (ci := 4) (v := Value.ref (ad 11)) (C := RX4) (T := TX4) (N := 7) hx hb hts in_X6_houseOf_X4 hown hK.1 hP 10 (rfl) rfl 1 (by decide) (hts _ (List.mem_of_getElem? (i := 4) rfl) : (Cond.fieldLink RX6 160 "CordSeals$Seals" "die" "[I").before _ s = true) (fun _ h9 => h9) rfl dX6_houseOf_11 ?_
  refine lv_iload_n hx hb dX6_houseOf_14 rfl (lv_at hl 1 rfl) ?_
  refine zi_ald hx hb hK hP 11 (f := (R 11)) (rfl) (t) (rfl) (by omega) (by decide) dX6_houseOf_15 ?_
  have hb_1 := hB 11 t
  refine zi_ald hx hb hK hP 5 (f := (R 5)) (rfl) ((R 11 t).toNat) (by omega) (by omega) (by decide) dX6_houseOf_16 ?_
  have hb_2 := hB 5 ((R 11 t).toNat)
  exact zo_iret hx hb hr hlocks (rfl) dX6_houseOf_17

theorem cd_X6_hasOtherHouse : cd yX6_hasOtherHouse 2 := by decide +kernel
theorem in_X6_hasOtherHouse_X5 : ∀ w ∈ wsX50, w ∈ wsX6_hasOtherHouse := by decide +kernel
theorem in_X6_hasOtherHouse_X6 : ∀ w ∈ wsX60, w ∈ wsX6_hasOtherHouse := by decide +kernel
set_option maxHeartbeats 4000000 in
set_option maxRecDepth 100000 in
theorem c_X6_hasOtherHouse (l : Launch) (g : va_G) (τ : Nat → ClassId) (ad : Nat → Nat) (R : Nat → Nat → Int) (hI : SI R) (h t : Nat) (hh : h < 6) (ht : (t : Int) < R 10 0) : Met l yX6_hasOtherHouse wsX6_hasOtherHouse { frames := 1, cells := 0, slots := 0, locals := 22 } (va_Pc [Value.ref (ad 0), Value.int (iI (h : Int)), Value.int (iI (t : Int))] (roW g τ (stW ad R τ))) (roQ (some (Value.int (iI (zB (othH R h t)))))) 0 0 nof := by
  have hB := hI.hB
  have hr0 := hI.r
  have hd0 := hI.d
  have hs0 := hI.s
  have hm := hI.hN h hh
  have hsd : shN R h = (R 18 h).toNat := rfl
  refine roMet (cc := cX6_hasOtherHouse) (maxL := 4) (ret := (some .boolean)) (lv := [(0, Value.ref (ad 0)), (1, Value.int (iI (h : Int))), (2, Value.int (iI (t : Int)))]) (by decide) rfl (Nat.le_of_ble_eq_true rfl) rfl ?_
  intro p e s m below meth c hx hb hr hml hts hown hlocks hP hK ls hl
  refine lv_iconst (v := iI 0) hx hb dX6_hasOtherHouse_0 (by decide) ?_
  refine lv_istore_n (lv' := [(3, Value.int (iI 0)), (0, Value.ref (ad 0)), (1, Value.int (iI (h : Int))), (2, Value.int (iI (t : Int)))]) hx hb dX6_hasOtherHouse_1 rfl hl (by decide) rfl (fun ls hl => ?_)
  refine lp_up (fun i => [(3, Value.int (iI (i : Int))), (0, Value.ref (ad 0)), (1, Value.int (iI (h : Int))), (2, Value.int (iI (t : Int)))]) (fun i => ∀ j, j < i → decide (¬ hsO R (R 19 (h * 6 + j)).toNat = hsO R t) = false) (shN R h) (0) (by omega) (by first | trivial | (intro j hj; omega)) (lv_eq (lv_sub hl [0, 1, 2, 3] rfl) (by show [(3, Value.int (iI 0)), (0, Value.ref (ad 0)), (1, Value.int (iI (h : Int))), (2, Value.int (iI (t : Int)))] = [(3, Value.int (iI 0)), (0, Value.ref (ad 0)), (1, Value.int (iI (h : Int))), (2, Value.int (iI (t : Int)))]; rfl)) (fun i h0_i hi_i hI_i ih_2 ls hl => ?_)
  refine lv_iload_n hx hb dX6_hasOtherHouse_2 rfl (lv_at hl 0 rfl) ?_
  refine lv_aload_n hx hb dX6_hasOtherHouse_3 rfl (lv_at hl 1 rfl) ?_
  refine va_get (D := g) (ci := 6) (v := Value.ref (ad 17)) (C := RX6) (T := TX6) (N := 5) hx hb hts in_X6_hasOtherHouse_X6 hown hK.1 hP 0 (rfl) rfl 3 (by decide) (hts _ (List.mem_of_getElem? (i := 1) rfl) : (Cond.fieldLink RX6 35 "CordSeals$State" "shelves" "LCordSeals$Shelves;").before _ s = true) (fun _ h9 => h9) rfl dX6_hasOtherHouse_4 ?_
  refine va_get (D := g) (ci := 5) (v := Value.ref (ad 18)) (C := RX5) (T := TX5) (N := 2) hx hb hts in_X6_hasOtherHouse_X5 hown hK.1 hP 17 (rfl) rfl 0 (by decide) (hts _ (List.mem_of_getElem? (i := 2) rfl) : (Cond.fieldLink RX6 200 "CordSeals$Shelves" "count" "[I").before _ s = true) (fun _ h9 => h9) rfl dX6_hasOtherHouse_7 ?_
  refine lv_iload_n hx hb dX6_hasOtherHouse_10 rfl (lv_at hl 2 rfl) ?_
  refine zi_ald hx hb hK hP 18 (f := (R 18)) (rfl) (h) (rfl) (by omega) (by decide) dX6_hasOtherHouse_11 ?_
  have hb_1 := hB 18 h
  refine zi_icmp_ge (tgt := 44) hx hb ⟨by omega, by omega⟩ ⟨by omega, by omega⟩ dX6_hasOtherHouse_12 (by decide) (fun c_2 => ?_) (fun c_2 => ?_)
  · have _ := c_2
    have h0_i : i = shN R h := by omega
    refine lv_iconst (v := iI 0) hx hb dX6_hasOtherHouse_44 (by decide) ?_
    exact zo_zret hx hb hr hlocks (by rw [othH, ← h0_i, anyB_f hI_i]; rfl) dX6_hasOtherHouse_45
  · have _ := c_2
    have hl_i : i < shN R h := by omega
    refine lv_aload_n hx hb dX6_hasOtherHouse_15 rfl (lv_at hl 1 rfl) ?_
    refine lv_aload_n hx hb dX6_hasOtherHouse_16 rfl (lv_at hl 1 rfl) ?_
    refine va_get (D := g) (ci := 6) (v := Value.ref (ad 17)) (C := RX6) (T := TX6) (N := 5) hx hb hts in_X6_hasOtherHouse_X6 hown hK.1 hP 0 (rfl) rfl 3 (by decide) (hts _ (List.mem_of_getElem? (i := 1) rfl) : (Cond.fieldLink RX6 35 "CordSeals$State" "shelves" "LCordSeals$Shelves;").before _ s = true) (fun _ h9 => h9) rfl dX6_hasOtherHouse_17 ?_
    refine lv_iload_n hx hb dX6_hasOtherHouse_20 rfl (lv_at hl 2 rfl) ?_
    refine lv_iload_n hx hb dX6_hasOtherHouse_21 rfl (lv_at hl 0 rfl) ?_
    have hon := hI.on h i hh (by omega)
    refine ro_V (As := [Value.int (iI (h : Int)), Value.int (iI (i : Int))]) (rest := [Value.ref (ad 0)]) (v := some (Value.int (iI (R 19 (h * 6 + i))))) ⟨hx, hb, hml, hown, hts⟩ (c_X5_at l g τ ad R h i (by omega) (by omega)) gX6_hasOtherHouse_X5_at cd_X5_at rfl rfl ⟨rfl, rfl⟩ ⟨Nat.le_of_ble_eq_true rfl, Nat.le_of_ble_eq_true rfl⟩ hK (hP.sub [17, 18, 19] rfl) 0 rfl rfl rfl rfl hl rfl (Nat.le_of_ble_eq_true rfl) dX6_hasOtherHouse_22 ⟨Nat.le_of_ble_eq_true rfl, Nat.le_of_ble_eq_true rfl⟩ ?_
    refine tl_some ?_
    have hb_3 := hB 19 (h * 6 + i)
    refine cv_i (y := iI (((R 19 (h * 6 + i)).toNat : Nat) : Int)) (congrArg iI (by have := hI.on h i hh (by omega); omega)) ?_
    refine ro_V (As := [Value.int (iI (((R 19 (h * 6 + i)).toNat : Nat) : Int))]) (rest := []) (v := some (Value.int (iI (hsO R ((R 19 (h * 6 + i)).toNat))))) ⟨hx, hb, hml, hown, hts⟩ (c_X6_houseOf l g τ ad R hI ((R 19 (h * 6 + i)).toNat) (by omega)) gX6_hasOtherHouse_X6_houseOf cd_X6_houseOf rfl rfl ⟨rfl, rfl⟩ ⟨Nat.le_of_ble_eq_true rfl, Nat.le_of_ble_eq_true rfl⟩ hK hP 0 rfl rfl rfl rfl hl rfl (Nat.le_of_ble_eq_true rfl) dX6_hasOtherHouse_25 ⟨Nat.le_of_ble_eq_true rfl, Nat.le_of_ble_eq_true rfl⟩ ?_
    refine tl_some ?_
    have hb_4 := hB 5 (R 11 ((R 19 (h * 6 + i)).toNat)).toNat
    have hb_5 : hsO R ((R 19 (h * 6 + i)).toNat) = R 5 (R 11 ((R 19 (h * 6 + i)).toNat)).toNat := rfl
    refine lv_aload_n hx hb dX6_hasOtherHouse_28 rfl (lv_at hl 1 rfl) ?_
    refine lv_iload_n hx hb dX6_hasOtherHouse_29 rfl (lv_at hl 3 rfl) ?_
    refine ro_V (As := [Value.int (iI (t : Int))]) (rest := [Value.int (iI (hsO R ((R 19 (h * 6 + i)).toNat)))]) (v := some (Value.int (iI (hsO R t)))) ⟨hx, hb, hml, hown, hts⟩ (c_X6_houseOf l g τ ad R hI t (by omega)) gX6_hasOtherHouse_X6_houseOf cd_X6_houseOf rfl rfl ⟨rfl, rfl⟩ ⟨Nat.le_of_ble_eq_true rfl, Nat.le_of_ble_eq_true rfl⟩ hK hP 0 rfl rfl rfl rfl hl rfl (Nat.le_of_ble_eq_true rfl) dX6_hasOtherHouse_30 ⟨Nat.le_of_ble_eq_true rfl, Nat.le_of_ble_eq_true rfl⟩ ?_
    refine tl_some ?_
    have hb_6 := hB 5 (R 11 t).toNat
    have hb_7 : hsO R t = R 5 (R 11 t).toNat := rfl
    refine zi_icmp_eq (tgt := 38) hx hb ⟨by omega, by omega⟩ ⟨by omega, by omega⟩ dX6_hasOtherHouse_33 (by decide) (fun c_8 => ?_) (fun c_8 => ?_)
    · have _ := c_8
      refine zi_inc (v := ((i + 1 : Nat) : Int)) (lv' := [(3, Value.int (iI ((i + 1 : Nat) : Int))), (0, Value.ref (ad 0)), (1, Value.int (iI (h : Int))), (2, Value.int (iI (t : Int)))]) hx hb dX6_hasOtherHouse_38 hl (k := 0) rfl (by omega) (by decide) rfl (fun ls hl => ?_)
      refine lv_goto (tgt := 2) hx hb dX6_hasOtherHouse_41 (by decide) ?_
      have hb_9 : (((i + 1) : Nat) : Int) = ((i + 1 : Nat) : Int) := by first | rfl | omega | (simp [c_2, c_8]; done)
      exact ih_2 hl_i (lt_step hI_i (by simp; omega)) _ (lv_eq (lv_sub hl [0, 1, 2, 3] rfl) (by show [(3, Value.int (iI (((i + 1) : Nat) : Int))), (0, Value.ref (ad 0)), (1, Value.int (iI (h : Int))), (2, Value.int (iI (t : Int)))] = [(3, Value.int (iI ((i + 1 : Nat) : Int))), (0, Value.ref (ad 0)), (1, Value.int (iI (h : Int))), (2, Value.int (iI (t : Int)))]; rw [hb_9]))
    · have _ := c_8
      refine lv_iconst (v := iI 1) hx hb dX6_hasOtherHouse_36 (by decide) ?_
      exact zo_zret hx hb hr hlocks (by rw [othH, anyB_t (i := i) (by simp; omega) hl_i]; rfl) dX6_hasOtherHouse_37
