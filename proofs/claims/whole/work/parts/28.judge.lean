def jF (J : Nat → Nat → Int) (s : Nat) : Bool := decide (¬ J 3 s = 0)
def jC (J : Nat → Nat → Int) (s : Nat) : Bool := decide (J 3 s = 1)
def jFD (R J : Nat → Nat → Int) (q : Int) (s : Nat) : Bool := decide (R 11 s = q) && decide (¬ J 3 s = 0)
def jFC (R J : Nat → Nat → Int) (q : Int) (s : Nat) : Bool := decide (R 16 s = q) && decide (¬ J 3 s = 0)
def jCF (R J : Nat → Nat → Int) (c : Nat) : Bool := decide (0 < cnt (jFC R J c) (R 10 0).toNat)
def jG (R J : Nat → Nat → Int) (q : Int) (s : Nat) : Bool := decide (J 3 s = 0) && yHas R (R 1 0).toNat (J 0 s) (J 1 s) (J 2 s) q
def rkJ (J : Nat → Nat → Int) (s : Nat) : Int := if J 3 s = 0 then J 4 s else 2000
def gAt (R : Nat → Nat → Int) (h k : Nat) : Nat := (R 19 (h * 6 + k)).toNat
def gLat (R J : Nat → Nat → Int) (h : Nat) : Nat → Int
  | 0 => 1000
  | k + 1 => if J 3 (gAt R h k) = 0 then J 4 (gAt R h k) else gLat R J h k
theorem gLat_r (R J : Nat → Nat → Int) (hJ : HB J) (h : Nat) : ∀ k, -1 ≤ gLat R J h k ∧ gLat R J h k < 65536
  | 0 => by unfold gLat; omega
  | k + 1 => by
    have h1 := gLat_r R J hJ h k
    have h2 := hJ 4 (gAt R h k)
    unfold gLat
    split <;> omega
def gBad (R J : Nat → Nat → Int) (h k : Nat) : Bool := decide (J 3 (gAt R h k) = 0) && decide (J 4 (gAt R h k) < gLat R J h k)
def jGood (R J : Nat → Nat → Int) (h : Nat) : Bool := !anyB (gBad R J h) (shN R h)
def jAh (R J : Nat → Nat → Int) (t u : Nat) : Bool := decide (¬ yLast R (R 1 0).toNat (J 0 t) (J 1 t) (J 2 t) = -1) && decide (yLast R (R 1 0).toNat (J 0 t) (J 1 t) (J 2 t) < J 4 u)
def jD (R J : Nat → Nat → Int) (q : Int) (s : Nat) : Bool := decide (R 16 s = q) && (decide (J 3 s = 0) || decide (J 3 s = 4))
def ownJ (R J : Nat → Nat → Int) (s : Nat) : Int := if R 20 (R 12 s).toNat < R 14 s then 1 else if J 2 s = 0 then 2 else if J 4 s = -1 then 3 else 0
theorem yLast_r {R : Nat → Nat → Int} (hB : HB R) (n : Nat) (lo : Int) {hi : Int} (h : -1 ≤ hi ∧ hi < 65536) (sp : Int) : -2 ≤ yLast R n lo hi sp ∧ yLast R n lo hi sp < 65536 := by
  have h1 := kLast_r R hB n (n - yLi R n lo hi sp)
  unfold yLast yTo
  split <;> omega

theorem cd_X1_fakes : cd yX1_fakes 1 := by decide +kernel
theorem in_X1_fakes_X1 : ∀ w ∈ wsX10, w ∈ wsX1_fakes := by decide +kernel
theorem in_X1_fakes_X4 : ∀ w ∈ wsX40, w ∈ wsX1_fakes := by decide +kernel
theorem in_X1_fakes_X6 : ∀ w ∈ wsX60, w ∈ wsX1_fakes := by decide +kernel
set_option maxHeartbeats 1000000 in
set_option maxRecDepth 100000 in
theorem c_X1_fakes (l : Launch) (g : va_G) (τ : Nat → ClassId) (ad aj : Nat → Nat) (R J : Nat → Nat → Int) (hI : SI R) (hjb : HB J)  : Met l yX1_fakes wsX1_fakes { frames := 0, cells := 0, slots := 0, locals := 0 } (va_Pc [Value.ref (aj 0), Value.ref (ad 0)] (roW g τ (juW aj J τ ++ stW ad R τ))) (roQ (some (Value.int (iI (cnt (jF J) ((R 10 0).toNat)))))) 0 0 nof := by
  have hB := hI.hB
  have hr0 := hI.r
  have hd0 := hI.d
  have hs0 := hI.s
  have hN := hI.hN
  refine roMet (cc := cX1_fakes) (maxL := 4) (ret := (some .int)) (lv := [(0, Value.ref (aj 0)), (1, Value.ref (ad 0))]) (by decide) rfl (Nat.le_of_ble_eq_true rfl) rfl ?_
  intro p e s m below meth c hx hb hr hml hts hown hlocks hP hK ls hl
  have hJ := va_left hP
  have hT := va_right hP
  refine lv_iconst (v := iI 0) hx hb dX1_fakes_0 (by decide) ?_
  refine lv_istore_n (lv' := [(2, Value.int (iI 0)), (0, Value.ref (aj 0)), (1, Value.ref (ad 0))]) hx hb dX1_fakes_1 rfl hl (by decide) rfl (fun ls hl => ?_)
  refine lv_iconst (v := iI 0) hx hb dX1_fakes_2 (by decide) ?_
  refine lv_istore_n (lv' := [(3, Value.int (iI 0)), (2, Value.int (iI 0)), (0, Value.ref (aj 0)), (1, Value.ref (ad 0))]) hx hb dX1_fakes_3 rfl hl (by decide) rfl (fun ls hl => ?_)
  have h0_1 : cnt (jF J) 0 = 0 := by first | rfl | omega | (simp [jF, cnt]; done)
  refine lp_up (fun i => [(3, Value.int (iI (i : Int))), (2, Value.int (iI (cnt (jF J) i))), (0, Value.ref (aj 0)), (1, Value.ref (ad 0))]) (fun i => True) ((R 10 0).toNat) (0) (by omega) (by first | trivial | (intro j hj; omega)) (lv_eq (lv_sub hl [0, 1, 2, 3] rfl) (by show [(3, Value.int (iI 0)), (2, Value.int (iI (cnt (jF J) 0))), (0, Value.ref (aj 0)), (1, Value.ref (ad 0))] = [(3, Value.int (iI 0)), (2, Value.int (iI 0)), (0, Value.ref (aj 0)), (1, Value.ref (ad 0))]; rw [h0_1])) (fun i h0_i hi_i hI_i ih_4 ls hl => ?_)
  refine lv_iload_n hx hb dX1_fakes_4 rfl (lv_at hl 0 rfl) ?_
  refine lv_aload_n hx hb dX1_fakes_5 rfl (lv_at hl 3 rfl) ?_
  refine va_get (D := g) (ci := 6) (v := Value.ref (ad 10)) (C := RX6) (T := TX6) (N := 5) hx hb hts in_X1_fakes_X6 hown hK.1 hT 0 (rfl) rfl 2 (by decide) (hts _ (List.mem_of_getElem? (i := 1) rfl) : (Cond.fieldLink RX1 42 "CordSeals$State" "seals" "LCordSeals$Seals;").before _ s = true) (fun _ h9 => h9) rfl dX1_fakes_6 ?_
  refine va_get (D := g) (ci := 4) (v := Value.int (iI (R 10 0))) (C := RX4) (T := TX4) (N := 7) hx hb hts in_X1_fakes_X4 hown hK.1 hT 10 (rfl) rfl 0 (by decide) (hts _ (List.mem_of_getElem? (i := 2) rfl) : (Cond.fieldLink RX1 48 "CordSeals$Seals" "count" "I").before _ s = true) (fun _ h9 => h9) rfl dX1_fakes_9 ?_
  have hb_2 := hB 10 0
  refine zi_icmp_ge (tgt := 33) hx hb ⟨by omega, by omega⟩ ⟨by omega, by omega⟩ dX1_fakes_12 (by decide) (fun c_3 => ?_) (fun c_3 => ?_)
  · have _ := c_3
    have h0_i : i = (R 10 0).toNat := by omega
    refine lv_iload_n hx hb dX1_fakes_33 rfl (lv_at hl 1 rfl) ?_
    exact zo_iret hx hb hr hlocks (by rw [h0_i]) dX1_fakes_34
  · have _ := c_3
    have hl_i : i < (R 10 0).toNat := by omega
    refine lv_aload_n hx hb dX1_fakes_15 rfl (lv_at hl 2 rfl) ?_
    refine va_get (D := g) (ci := 1) (v := Value.ref (aj 3)) (C := RX1) (T := TX1) (N := 6) hx hb hts in_X1_fakes_X1 hown hK.1 hJ 0 (rfl) rfl 2 (by decide) (hts _ (List.mem_of_getElem? (i := 3) rfl) : (Cond.fieldLink RX1 20 "CordSeals$Judge" "reason" "[I").before _ s = true) (fun _ h9 => h9) rfl dX1_fakes_16 ?_
    refine lv_iload_n hx hb dX1_fakes_19 rfl (lv_at hl 0 rfl) ?_
    refine zi_ald hx hb hK hJ 3 (f := (J 3)) (rfl) (i) (rfl) (by omega) (by decide) dX1_fakes_20 ?_
    have hb_4 := hjb 3 i
    refine zi_if_eq (tgt := 27) hx hb ⟨by omega, by omega⟩ dX1_fakes_21 (by decide) (fun c_5 => ?_) (fun c_5 => ?_)
    · have _ := c_5
      refine zi_inc (v := ((i + 1 : Nat) : Int)) (lv' := [(3, Value.int (iI ((i + 1 : Nat) : Int))), (2, Value.int (iI (cnt (jF J) i))), (0, Value.ref (aj 0)), (1, Value.ref (ad 0))]) hx hb dX1_fakes_27 hl (k := 0) rfl (by omega) (by decide) rfl (fun ls hl => ?_)
      refine lv_goto (tgt := 4) hx hb dX1_fakes_30 (by decide) ?_
      have hb_6 : (((i + 1) : Nat) : Int) = ((i + 1 : Nat) : Int) := by first | rfl | omega | (simp [jF, cnt, c_3, c_5]; done)
      have hb_7 : cnt (jF J) (i + 1) = cnt (jF J) i := by first | rfl | omega | (simp [jF, cnt, c_3, c_5]; done)
      exact ih_4 hl_i (trivial) _ (lv_eq (lv_sub hl [0, 1, 2, 3] rfl) (by show [(3, Value.int (iI (((i + 1) : Nat) : Int))), (2, Value.int (iI (cnt (jF J) (i + 1)))), (0, Value.ref (aj 0)), (1, Value.ref (ad 0))] = [(3, Value.int (iI ((i + 1 : Nat) : Int))), (2, Value.int (iI (cnt (jF J) i))), (0, Value.ref (aj 0)), (1, Value.ref (ad 0))]; rw [hb_6, hb_7]))
    · have _ := c_5
      refine zi_inc (v := (cnt (jF J) i) + 1) (lv' := [(2, Value.int (iI ((cnt (jF J) i) + 1))), (3, Value.int (iI (i : Int))), (0, Value.ref (aj 0)), (1, Value.ref (ad 0))]) hx hb dX1_fakes_24 hl (k := 1) rfl rfl (by decide) rfl (fun ls hl => ?_)
      refine zi_inc (v := ((i + 1 : Nat) : Int)) (lv' := [(3, Value.int (iI ((i + 1 : Nat) : Int))), (2, Value.int (iI ((cnt (jF J) i) + 1))), (0, Value.ref (aj 0)), (1, Value.ref (ad 0))]) hx hb dX1_fakes_27 hl (k := 1) rfl (by omega) (by decide) rfl (fun ls hl => ?_)
      refine lv_goto (tgt := 4) hx hb dX1_fakes_30 (by decide) ?_
      have hb_8 : (((i + 1) : Nat) : Int) = ((i + 1 : Nat) : Int) := by first | rfl | omega | (simp [jF, cnt, c_3, c_5]; done)
      have hb_9 : cnt (jF J) (i + 1) = (cnt (jF J) i) + 1 := by first | rfl | omega | (simp [jF, cnt, c_3, c_5]; done)
      exact ih_4 hl_i (trivial) _ (lv_eq (lv_sub hl [0, 1, 2, 3] rfl) (by show [(3, Value.int (iI (((i + 1) : Nat) : Int))), (2, Value.int (iI (cnt (jF J) (i + 1)))), (0, Value.ref (aj 0)), (1, Value.ref (ad 0))] = [(3, Value.int (iI ((i + 1 : Nat) : Int))), (2, Value.int (iI ((cnt (jF J) i) + 1))), (0, Value.ref (aj 0)), (1, Value.ref (ad 0))]; rw [hb_8, hb_9]))

theorem cd_X1_casts : cd yX1_casts 1 := by decide +kernel
theorem in_X1_casts_X1 : ∀ w ∈ wsX10, w ∈ wsX1_casts := by decide +kernel
theorem in_X1_casts_X4 : ∀ w ∈ wsX40, w ∈ wsX1_casts := by decide +kernel
theorem in_X1_casts_X6 : ∀ w ∈ wsX60, w ∈ wsX1_casts := by decide +kernel
set_option maxHeartbeats 1000000 in
set_option maxRecDepth 100000 in
theorem c_X1_casts (l : Launch) (g : va_G) (τ : Nat → ClassId) (ad aj : Nat → Nat) (R J : Nat → Nat → Int) (hI : SI R) (hjb : HB J)  : Met l yX1_casts wsX1_casts { frames := 0, cells := 0, slots := 0, locals := 0 } (va_Pc [Value.ref (aj 0), Value.ref (ad 0)] (roW g τ (juW aj J τ ++ stW ad R τ))) (roQ (some (Value.int (iI (cnt (jC J) ((R 10 0).toNat)))))) 0 0 nof := by
  have hB := hI.hB
  have hr0 := hI.r
  have hd0 := hI.d
  have hs0 := hI.s
  have hN := hI.hN
  refine roMet (cc := cX1_casts) (maxL := 4) (ret := (some .int)) (lv := [(0, Value.ref (aj 0)), (1, Value.ref (ad 0))]) (by decide) rfl (Nat.le_of_ble_eq_true rfl) rfl ?_
  intro p e s m below meth c hx hb hr hml hts hown hlocks hP hK ls hl
  have hJ := va_left hP
  have hT := va_right hP
  refine lv_iconst (v := iI 0) hx hb dX1_casts_0 (by decide) ?_
  refine lv_istore_n (lv' := [(2, Value.int (iI 0)), (0, Value.ref (aj 0)), (1, Value.ref (ad 0))]) hx hb dX1_casts_1 rfl hl (by decide) rfl (fun ls hl => ?_)
  refine lv_iconst (v := iI 0) hx hb dX1_casts_2 (by decide) ?_
  refine lv_istore_n (lv' := [(3, Value.int (iI 0)), (2, Value.int (iI 0)), (0, Value.ref (aj 0)), (1, Value.ref (ad 0))]) hx hb dX1_casts_3 rfl hl (by decide) rfl (fun ls hl => ?_)
  have h0_1 : cnt (jC J) 0 = 0 := by first | rfl | omega | (simp [jC, cnt]; done)
  refine lp_up (fun i => [(3, Value.int (iI (i : Int))), (2, Value.int (iI (cnt (jC J) i))), (0, Value.ref (aj 0)), (1, Value.ref (ad 0))]) (fun i => True) ((R 10 0).toNat) (0) (by omega) (by first | trivial | (intro j hj; omega)) (lv_eq (lv_sub hl [0, 1, 2, 3] rfl) (by show [(3, Value.int (iI 0)), (2, Value.int (iI (cnt (jC J) 0))), (0, Value.ref (aj 0)), (1, Value.ref (ad 0))] = [(3, Value.int (iI 0)), (2, Value.int (iI 0)), (0, Value.ref (aj 0)), (1, Value.ref (ad 0))]; rw [h0_1])) (fun i h0_i hi_i hI_i ih_4 ls hl => ?_)
  refine lv_iload_n hx hb dX1_casts_4 rfl (lv_at hl 0 rfl) ?_
  refine lv_aload_n hx hb dX1_casts_5 rfl (lv_at hl 3 rfl) ?_
  refine va_get (D := g) (ci := 6) (v := Value.ref (ad 10)) (C := RX6) (T := TX6) (N := 5) hx hb hts in_X1_casts_X6 hown hK.1 hT 0 (rfl) rfl 2 (by decide) (hts _ (List.mem_of_getElem? (i := 1) rfl) : (Cond.fieldLink RX1 42 "CordSeals$State" "seals" "LCordSeals$Seals;").before _ s = true) (fun _ h9 => h9) rfl dX1_casts_6 ?_
  refine va_get (D := g) (ci := 4) (v := Value.int (iI (R 10 0))) (C := RX4) (T := TX4) (N := 7) hx hb hts in_X1_casts_X4 hown hK.1 hT 10 (rfl) rfl 0 (by decide) (hts _ (List.mem_of_getElem? (i := 2) rfl) : (Cond.fieldLink RX1 48 "CordSeals$Seals" "count" "I").before _ s = true) (fun _ h9 => h9) rfl dX1_casts_9 ?_
  have hb_2 := hB 10 0
  refine zi_icmp_ge (tgt := 34) hx hb ⟨by omega, by omega⟩ ⟨by omega, by omega⟩ dX1_casts_12 (by decide) (fun c_3 => ?_) (fun c_3 => ?_)
  · have _ := c_3
    have h0_i : i = (R 10 0).toNat := by omega
    refine lv_iload_n hx hb dX1_casts_34 rfl (lv_at hl 1 rfl) ?_
    exact zo_iret hx hb hr hlocks (by rw [h0_i]) dX1_casts_35
  · have _ := c_3
    have hl_i : i < (R 10 0).toNat := by omega
    refine lv_aload_n hx hb dX1_casts_15 rfl (lv_at hl 2 rfl) ?_
    refine va_get (D := g) (ci := 1) (v := Value.ref (aj 3)) (C := RX1) (T := TX1) (N := 6) hx hb hts in_X1_casts_X1 hown hK.1 hJ 0 (rfl) rfl 2 (by decide) (hts _ (List.mem_of_getElem? (i := 3) rfl) : (Cond.fieldLink RX1 20 "CordSeals$Judge" "reason" "[I").before _ s = true) (fun _ h9 => h9) rfl dX1_casts_16 ?_
    refine lv_iload_n hx hb dX1_casts_19 rfl (lv_at hl 0 rfl) ?_
    refine zi_ald hx hb hK hJ 3 (f := (J 3)) (rfl) (i) (rfl) (by omega) (by decide) dX1_casts_20 ?_
    have hb_4 := hjb 3 i
    refine lv_iconst (v := iI 1) hx hb dX1_casts_21 (by decide) ?_
    refine zi_icmp_ne (tgt := 28) hx hb ⟨by omega, by omega⟩ ⟨by decide, by decide⟩ dX1_casts_22 (by decide) (fun c_5 => ?_) (fun c_5 => ?_)
    · have _ := c_5
      refine zi_inc (v := ((i + 1 : Nat) : Int)) (lv' := [(3, Value.int (iI ((i + 1 : Nat) : Int))), (2, Value.int (iI (cnt (jC J) i))), (0, Value.ref (aj 0)), (1, Value.ref (ad 0))]) hx hb dX1_casts_28 hl (k := 0) rfl (by omega) (by decide) rfl (fun ls hl => ?_)
      refine lv_goto (tgt := 4) hx hb dX1_casts_31 (by decide) ?_
      have hb_6 : (((i + 1) : Nat) : Int) = ((i + 1 : Nat) : Int) := by first | rfl | omega | (simp [jC, cnt, c_3, c_5]; done)
      have hb_7 : cnt (jC J) (i + 1) = cnt (jC J) i := by first | rfl | omega | (simp [jC, cnt, c_3, c_5]; done)
      exact ih_4 hl_i (trivial) _ (lv_eq (lv_sub hl [0, 1, 2, 3] rfl) (by show [(3, Value.int (iI (((i + 1) : Nat) : Int))), (2, Value.int (iI (cnt (jC J) (i + 1)))), (0, Value.ref (aj 0)), (1, Value.ref (ad 0))] = [(3, Value.int (iI ((i + 1 : Nat) : Int))), (2, Value.int (iI (cnt (jC J) i))), (0, Value.ref (aj 0)), (1, Value.ref (ad 0))]; rw [hb_6, hb_7]))
    · have _ := c_5
      refine zi_inc (v := (cnt (jC J) i) + 1) (lv' := [(2, Value.int (iI ((cnt (jC J) i) + 1))), (3, Value.int (iI (i : Int))), (0, Value.ref (aj 0)), (1, Value.ref (ad 0))]) hx hb dX1_casts_25 hl (k := 1) rfl rfl (by decide) rfl (fun ls hl => ?_)
      refine zi_inc (v := ((i + 1 : Nat) : Int)) (lv' := [(3, Value.int (iI ((i + 1 : Nat) : Int))), (2, Value.int (iI ((cnt (jC J) i) + 1))), (0, Value.ref (aj 0)), (1, Value.ref (ad 0))]) hx hb dX1_casts_28 hl (k := 1) rfl (by omega) (by decide) rfl (fun ls hl => ?_)
      refine lv_goto (tgt := 4) hx hb dX1_casts_31 (by decide) ?_
      have hb_8 : (((i + 1) : Nat) : Int) = ((i + 1 : Nat) : Int) := by first | rfl | omega | (simp [jC, cnt, c_3, c_5]; done)
      have hb_9 : cnt (jC J) (i + 1) = (cnt (jC J) i) + 1 := by first | rfl | omega | (simp [jC, cnt, c_3, c_5]; done)
      exact ih_4 hl_i (trivial) _ (lv_eq (lv_sub hl [0, 1, 2, 3] rfl) (by show [(3, Value.int (iI (((i + 1) : Nat) : Int))), (2, Value.int (iI (cnt (jC J) (i + 1)))), (0, Value.ref (aj 0)), (1, Value.ref (ad 0))] = [(3, Value.int (iI ((i + 1 : Nat) : Int))), (2, Value.int (iI ((cnt (jC J) i) + 1))), (0, Value.ref (aj 0)), (1, Value.ref (ad 0))]; rw [hb_8, hb_9]))

theorem cd_X1_fakesOfDie : cd yX1_fakesOfDie 2 := by decide +kernel
theorem in_X1_fakesOfDie_X1 : ∀ w ∈ wsX10, w ∈ wsX1_fakesOfDie := by decide +kernel
theorem in_X1_fakesOfDie_X4 : ∀ w ∈ wsX40, w ∈ wsX1_fakesOfDie := by decide +kernel
theorem in_X1_fakesOfDie_X6 : ∀ w ∈ wsX60, w ∈ wsX1_fakesOfDie := by decide +kernel
set_option maxHeartbeats 1000000 in
set_option maxRecDepth 100000 in
theorem c_X1_fakesOfDie (l : Launch) (g : va_G) (τ : Nat → ClassId) (ad aj : Nat → Nat) (R J : Nat → Nat → Int) (hI : SI R) (hjb : HB J) (q : Int) (rq : -2147483648 ≤ q ∧ q < 2147483648)  : Met l yX1_fakesOfDie wsX1_fakesOfDie { frames := 0, cells := 0, slots := 0, locals := 0 } (va_Pc [Value.ref (aj 0), Value.ref (ad 0), Value.int (iI q)] (roW g τ (juW aj J τ ++ stW ad R τ))) (roQ (some (Value.int (iI (cnt (jFD R J q) ((R 10 0).toNat)))))) 0 0 nof := by
  have hB := hI.hB
  have hr0 := hI.r
  have hd0 := hI.d
  have hs0 := hI.s
  have hN := hI.hN
  refine roMet (cc := cX1_fakesOfDie) (maxL := 5) (ret := (some .int)) (lv := [(0, Value.ref (aj 0)), (1, Value.ref (ad 0)), (2, Value.int (iI q))]) (by decide) rfl (Nat.le_of_ble_eq_true rfl) rfl ?_
  intro p e s m below meth c hx hb hr hml hts hown hlocks hP hK ls hl
  have hJ := va_left hP
  have hT := va_right hP
  refine lv_iconst (v := iI 0) hx hb dX1_fakesOfDie_0 (by decide) ?_
  refine lv_istore_n (lv' := [(3, Value.int (iI 0)), (0, Value.ref (aj 0)), (1, Value.ref (ad 0)), (2, Value.int (iI q))]) hx hb dX1_fakesOfDie_1 rfl hl (by decide) rfl (fun ls hl => ?_)
  refine lv_iconst (v := iI 0) hx hb dX1_fakesOfDie_2 (by decide) ?_
  refine lv_istore (lv' := [(4, Value.int (iI 0)), (3, Value.int (iI 0)), (0, Value.ref (aj 0)), (1, Value.ref (ad 0)), (2, Value.int (iI q))]) hx hb dX1_fakesOfDie_3 hl (by decide) rfl (fun ls hl => ?_)
  have h0_1 : cnt (jFD R J q) 0 = 0 := by first | rfl | omega | (simp [jFD, cnt]; done)
  refine lp_up (fun i => [(4, Value.int (iI (i : Int))), (3, Value.int (iI (cnt (jFD R J q) i))), (0, Value.ref (aj 0)), (1, Value.ref (ad 0)), (2, Value.int (iI q))]) (fun i => True) ((R 10 0).toNat) (0) (by omega) (by first | trivial | (intro j hj; omega)) (lv_eq (lv_sub hl [0, 1, 2, 3, 4] rfl) (by show [(4, Value.int (iI 0)), (3, Value.int (iI (cnt (jFD R J q) 0))), (0, Value.ref (aj 0)), (1, Value.ref (ad 0)), (2, Value.int (iI q))] = [(4, Value.int (iI 0)), (3, Value.int (iI 0)), (0, Value.ref (aj 0)), (1, Value.ref (ad 0)), (2, Value.int (iI q))]; rw [h0_1])) (fun i h0_i hi_i hI_i ih_5 ls hl => ?_)
  refine lv_iload hx hb dX1_fakesOfDie_5 (lv_at hl 0 rfl) ?_
  refine lv_aload_n hx hb dX1_fakesOfDie_7 rfl (lv_at hl 3 rfl) ?_
  refine va_get (D := g) (ci := 6) (v := Value.ref (ad 10)) (C := RX6) (T := TX6) (N := 5) hx hb hts in_X1_fakesOfDie_X6 hown hK.1 hT 0 (rfl) rfl 2 (by decide) (hts _ (List.mem_of_getElem? (i := 1) rfl) : (Cond.fieldLink RX1 42 "CordSeals$State" "seals" "LCordSeals$Seals;").before _ s = true) (fun _ h9 => h9) rfl dX1_fakesOfDie_8 ?_
  refine va_get (D := g) (ci := 4) (v := Value.int (iI (R 10 0))) (C := RX4) (T := TX4) (N := 7) hx hb hts in_X1_fakesOfDie_X4 hown hK.1 hT 10 (rfl) rfl 0 (by decide) (hts _ (List.mem_of_getElem? (i := 2) rfl) : (Cond.fieldLink RX1 48 "CordSeals$Seals" "count" "I").before _ s = true) (fun _ h9 => h9) rfl dX1_fakesOfDie_11 ?_
  have hb_2 := hB 10 0
  refine zi_icmp_ge (tgt := 50) hx hb ⟨by omega, by omega⟩ ⟨by omega, by omega⟩ dX1_fakesOfDie_14 (by decide) (fun c_3 => ?_) (fun c_3 => ?_)
  · have _ := c_3
    have h0_i : i = (R 10 0).toNat := by omega
    refine lv_iload_n hx hb dX1_fakesOfDie_50 rfl (lv_at hl 1 rfl) ?_
    exact zo_iret hx hb hr hlocks (by rw [h0_i]) dX1_fakesOfDie_51
  · have _ := c_3
    have hl_i : i < (R 10 0).toNat := by omega
    refine lv_aload_n hx hb dX1_fakesOfDie_17 rfl (lv_at hl 3 rfl) ?_
    refine va_get (D := g) (ci := 6) (v := Value.ref (ad 10)) (C := RX6) (T := TX6) (N := 5) hx hb hts in_X1_fakesOfDie_X6 hown hK.1 hT 0 (rfl) rfl 2 (by decide) (hts _ (List.mem_of_getElem? (i := 1) rfl) : (Cond.fieldLink RX1 42 "CordSeals$State" "seals" "LCordSeals$Seals;").before _ s = true) (fun _ h9 => h9) rfl dX1_fakesOfDie_18 ?_
    refine va_get (D := g) (ci := 4) (v := Value.ref (ad 11)) (C := RX4) (T := TX4) (N := 7) hx hb hts in_X1_fakesOfDie_X4 hown hK.1 hT 10 (rfl) rfl 1 (by decide) (hts _ (List.mem_of_getElem? (i := 3) rfl) : (Cond.fieldLink RX1 54 "CordSeals$Seals" "die" "[I").before _ s = true) (fun _ h9 => h9) rfl dX1_fakesOfDie_21 ?_
    refine lv_iload hx hb dX1_fakesOfDie_24 (lv_at hl 0 rfl) ?_
    refine zi_ald hx hb hK hT 11 (f := (R 11)) (rfl) (i) (rfl) (by omega) (by decide) dX1_fakesOfDie_26 ?_
    have hb_4 := hB 11 i
    refine lv_iload_n hx hb dX1_fakesOfDie_27 rfl (lv_at hl 4 rfl) ?_
    refine zi_icmp_ne (tgt := 44) hx hb ⟨by omega, by omega⟩ ⟨by omega, by omega⟩ dX1_fakesOfDie_28 (by decide) (fun c_5 => ?_) (fun c_5 => ?_)
    · have _ := c_5
      refine zi_inc (v := ((i + 1 : Nat) : Int)) (lv' := [(4, Value.int (iI ((i + 1 : Nat) : Int))), (3, Value.int (iI (cnt (jFD R J q) i))), (0, Value.ref (aj 0)), (1, Value.ref (ad 0)), (2, Value.int (iI q))]) hx hb dX1_fakesOfDie_44 hl (k := 0) rfl (by omega) (by decide) rfl (fun ls hl => ?_)
      refine lv_goto (tgt := 5) hx hb dX1_fakesOfDie_47 (by decide) ?_
      have hb_6 : (((i + 1) : Nat) : Int) = ((i + 1 : Nat) : Int) := by first | rfl | omega | (simp [jFD, cnt, c_3, c_5]; done)
      have hb_7 : cnt (jFD R J q) (i + 1) = cnt (jFD R J q) i := by first | rfl | omega | (simp [jFD, cnt, c_3, c_5]; done)
      exact ih_5 hl_i (trivial) _ (lv_eq (lv_sub hl [0, 1, 2, 3, 4] rfl) (by show [(4, Value.int (iI (((i + 1) : Nat) : Int))), (3, Value.int (iI (cnt (jFD R J q) (i + 1)))), (0, Value.ref (aj 0)), (1, Value.ref (ad 0)), (2, Value.int (iI q))] = [(4, Value.int (iI ((i + 1 : Nat) : Int))), (3, Value.int (iI (cnt (jFD R J q) i))), (0, Value.ref (aj 0)), (1, Value.ref (ad 0)), (2, Value.int (iI q))]; rw [hb_6, hb_7]))
    · have _ := c_5
      refine lv_aload_n hx hb dX1_fakesOfDie_31 rfl (lv_at hl 2 rfl) ?_
      refine va_get (D := g) (ci := 1) (v := Value.ref (aj 3)) (C := RX1) (T := TX1) (N := 6) hx hb hts in_X1_fakesOfDie_X1 hown hK.1 hJ 0 (rfl) rfl 2 (by decide) (hts _ (List.mem_of_getElem? (i := 4) rfl) : (Cond.fieldLink RX1 20 "CordSeals$Judge" "reason" "[I").before _ s = true) (fun _ h9 => h9) rfl dX1_fakesOfDie_32 ?_
      refine lv_iload hx hb dX1_fakesOfDie_35 (lv_at hl 0 rfl) ?_
      refine zi_ald hx hb hK hJ 3 (f := (J 3)) (rfl) (i) (rfl) (by omega) (by decide) dX1_fakesOfDie_37 ?_
      have hb_8 := hjb 3 i
      refine zi_if_eq (tgt := 44) hx hb ⟨by omega, by omega⟩ dX1_fakesOfDie_38 (by decide) (fun c_9 => ?_) (fun c_9 => ?_)
      · have _ := c_9
        refine zi_inc (v := ((i + 1 : Nat) : Int)) (lv' := [(4, Value.int (iI ((i + 1 : Nat) : Int))), (3, Value.int (iI (cnt (jFD R J q) i))), (0, Value.ref (aj 0)), (1, Value.ref (ad 0)), (2, Value.int (iI q))]) hx hb dX1_fakesOfDie_44 hl (k := 0) rfl (by omega) (by decide) rfl (fun ls hl => ?_)
        refine lv_goto (tgt := 5) hx hb dX1_fakesOfDie_47 (by decide) ?_
        have hb_10 : (((i + 1) : Nat) : Int) = ((i + 1 : Nat) : Int) := by first | rfl | omega | (simp [jFD, cnt, c_3, c_5, c_9]; done)
        have hb_11 : cnt (jFD R J q) (i + 1) = cnt (jFD R J q) i := by first | rfl | omega | (simp [jFD, cnt, c_3, c_5, c_9]; done)
        exact ih_5 hl_i (trivial) _ (lv_eq (lv_sub hl [0, 1, 2, 3, 4] rfl) (by show [(4, Value.int (iI (((i + 1) : Nat) : Int))), (3, Value.int (iI (cnt (jFD R J q) (i + 1)))), (0, Value.ref (aj 0)), (1, Value.ref (ad 0)), (2, Value.int (iI q))] = [(4, Value.int (iI ((i + 1 : Nat) : Int))), (3, Value.int (iI (cnt (jFD R J q) i))), (0, Value.ref (aj 0)), (1, Value.ref (ad 0)), (2, Value.int (iI q))]; rw [hb_10, hb_11]))
      · have _ := c_9
        refine zi_inc (v := (cnt (jFD R J q) i) + 1) (lv' := [(3, Value.int (iI ((cnt (jFD R J q) i) + 1))), (4, Value.int (iI (i : Int))), (0, Value.ref (aj 0)), (1, Value.ref (ad 0)), (2, Value.int (iI q))]) hx hb dX1_fakesOfDie_41 hl (k := 1) rfl rfl (by decide) rfl (fun ls hl => ?_)
        refine zi_inc (v := ((i + 1 : Nat) : Int)) (lv' := [(4, Value.int (iI ((i + 1 : Nat) : Int))), (3, Value.int (iI ((cnt (jFD R J q) i) + 1))), (0, Value.ref (aj 0)), (1, Value.ref (ad 0)), (2, Value.int (iI q))]) hx hb dX1_fakesOfDie_44 hl (k := 1) rfl (by omega) (by decide) rfl (fun ls hl => ?_)
        refine lv_goto (tgt := 5) hx hb dX1_fakesOfDie_47 (by decide) ?_
        have hb_12 : (((i + 1) : Nat) : Int) = ((i + 1 : Nat) : Int) := by first | rfl | omega | (simp [jFD, cnt, c_3, c_5, c_9]; done)
        have hb_13 : cnt (jFD R J q) (i + 1) = (cnt (jFD R J q) i) + 1 := by first | rfl | omega | (simp [jFD, cnt, c_3, c_5, c_9]; done)
        exact ih_5 hl_i (trivial) _ (lv_eq (lv_sub hl [0, 1, 2, 3, 4] rfl) (by show [(4, Value.int (iI (((i + 1) : Nat) : Int))), (3, Value.int (iI (cnt (jFD R J q) (i + 1)))), (0, Value.ref (aj 0)), (1, Value.ref (ad 0)), (2, Value.int (iI q))] = [(4, Value.int (iI ((i + 1 : Nat) : Int))), (3, Value.int (iI ((cnt (jFD R J q) i) + 1))), (0, Value.ref (aj 0)), (1, Value.ref (ad 0)), (2, Value.int (iI q))]; rw [hb_12, hb_13]))

theorem cd_X1_fakesOfCharter : cd yX1_fakesOfCharter 2 := by decide +kernel
theorem in_X1_fakesOfCharter_X1 : ∀ w ∈ wsX10, w ∈ wsX1_fakesOfCharter := by decide +kernel
theorem in_X1_fakesOfCharter_X4 : ∀ w ∈ wsX40, w ∈ wsX1_fakesOfCharter := by decide +kernel
theorem in_X1_fakesOfCharter_X6 : ∀ w ∈ wsX60, w ∈ wsX1_fakesOfCharter := by decide +kernel
set_option maxHeartbeats 1000000 in
set_option maxRecDepth 100000 in
theorem c_X1_fakesOfCharter (l : Launch) (g : va_G) (τ : Nat → ClassId) (ad aj : Nat → Nat) (R J : Nat → Nat → Int) (hI : SI R) (hjb : HB J) (q : Int) (rq : -2147483648 ≤ q ∧ q < 2147483648)  : Met l yX1_fakesOfCharter wsX1_fakesOfCharter { frames := 0, cells := 0, slots := 0, locals := 0 } (va_Pc [Value.ref (aj 0), Value.ref (ad 0), Value.int (iI q)] (roW g τ (juW aj J τ ++ stW ad R τ))) (roQ (some (Value.int (iI (cnt (jFC R J q) ((R 10 0).toNat)))))) 0 0 nof := by
  have hB := hI.hB
  have hr0 := hI.r
  have hd0 := hI.d
  have hs0 := hI.s
  have hN := hI.hN
  refine roMet (cc := cX1_fakesOfCharter) (maxL := 5) (ret := (some .int)) (lv := [(0, Value.ref (aj 0)), (1, Value.ref (ad 0)), (2, Value.int (iI q))]) (by decide) rfl (Nat.le_of_ble_eq_true rfl) rfl ?_
  intro p e s m below meth c hx hb hr hml hts hown hlocks hP hK ls hl
  have hJ := va_left hP
  have hT := va_right hP
  refine lv_iconst (v := iI 0) hx hb dX1_fakesOfCharter_0 (by decide) ?_
  refine lv_istore_n (lv' := [(3, Value.int (iI 0)), (0, Value.ref (aj 0)), (1, Value.ref (ad 0)), (2, Value.int (iI q))]) hx hb dX1_fakesOfCharter_1 rfl hl (by decide) rfl (fun ls hl => ?_)
  refine lv_iconst (v := iI 0) hx hb dX1_fakesOfCharter_2 (by decide) ?_
  refine lv_istore (lv' := [(4, Value.int (iI 0)), (3, Value.int (iI 0)), (0, Value.ref (aj 0)), (1, Value.ref (ad 0)), (2, Value.int (iI q))]) hx hb dX1_fakesOfCharter_3 hl (by decide) rfl (fun ls hl => ?_)
  have h0_1 : cnt (jFC R J q) 0 = 0 := by first | rfl | omega | (simp [jFC, cnt]; done)
  refine lp_up (fun i => [(4, Value.int (iI (i : Int))), (3, Value.int (iI (cnt (jFC R J q) i))), (0, Value.ref (aj 0)), (1, Value.ref (ad 0)), (2, Value.int (iI q))]) (fun i => True) ((R 10 0).toNat) (0) (by omega) (by first | trivial | (intro j hj; omega)) (lv_eq (lv_sub hl [0, 1, 2, 3, 4] rfl) (by show [(4, Value.int (iI 0)), (3, Value.int (iI (cnt (jFC R J q) 0))), (0, Value.ref (aj 0)), (1, Value.ref (ad 0)), (2, Value.int (iI q))] = [(4, Value.int (iI 0)), (3, Value.int (iI 0)), (0, Value.ref (aj 0)), (1, Value.ref (ad 0)), (2, Value.int (iI q))]; rw [h0_1])) (fun i h0_i hi_i hI_i ih_5 ls hl => ?_)
  refine lv_iload hx hb dX1_fakesOfCharter_5 (lv_at hl 0 rfl) ?_
  refine lv_aload_n hx hb dX1_fakesOfCharter_7 rfl (lv_at hl 3 rfl) ?_
  refine va_get (D := g) (ci := 6) (v := Value.ref (ad 10)) (C := RX6) (T := TX6) (N := 5) hx hb hts in_X1_fakesOfCharter_X6 hown hK.1 hT 0 (rfl) rfl 2 (by decide) (hts _ (List.mem_of_getElem? (i := 1) rfl) : (Cond.fieldLink RX1 42 "CordSeals$State" "seals" "LCordSeals$Seals;").before _ s = true) (fun _ h9 => h9) rfl dX1_fakesOfCharter_8 ?_
  refine va_get (D := g) (ci := 4) (v := Value.int (iI (R 10 0))) (C := RX4) (T := TX4) (N := 7) hx hb hts in_X1_fakesOfCharter_X4 hown hK.1 hT 10 (rfl) rfl 0 (by decide) (hts _ (List.mem_of_getElem? (i := 2) rfl) : (Cond.fieldLink RX1 48 "CordSeals$Seals" "count" "I").before _ s = true) (fun _ h9 => h9) rfl dX1_fakesOfCharter_11 ?_
  have hb_2 := hB 10 0
  refine zi_icmp_ge (tgt := 50) hx hb ⟨by omega, by omega⟩ ⟨by omega, by omega⟩ dX1_fakesOfCharter_14 (by decide) (fun c_3 => ?_) (fun c_3 => ?_)
  · have _ := c_3
    have h0_i : i = (R 10 0).toNat := by omega
    refine lv_iload_n hx hb dX1_fakesOfCharter_50 rfl (lv_at hl 1 rfl) ?_
    exact zo_iret hx hb hr hlocks (by rw [h0_i]) dX1_fakesOfCharter_51
  · have _ := c_3
    have hl_i : i < (R 10 0).toNat := by omega
    refine lv_aload_n hx hb dX1_fakesOfCharter_17 rfl (lv_at hl 3 rfl) ?_
    refine va_get (D := g) (ci := 6) (v := Value.ref (ad 10)) (C := RX6) (T := TX6) (N := 5) hx hb hts in_X1_fakesOfCharter_X6 hown hK.1 hT 0 (rfl) rfl 2 (by decide) (hts _ (List.mem_of_getElem? (i := 1) rfl) : (Cond.fieldLink RX1 42 "CordSeals$State" "seals" "LCordSeals$Seals;").before _ s = true) (fun _ h9 => h9) rfl dX1_fakesOfCharter_18 ?_
    refine va_get (D := g) (ci := 4) (v := Value.ref (ad 16)) (C := RX4) (T := TX4) (N := 7) hx hb hts in_X1_fakesOfCharter_X4 hown hK.1 hT 10 (rfl) rfl 6 (by decide) (hts _ (List.mem_of_getElem? (i := 3) rfl) : (Cond.fieldLink RX1 121 "CordSeals$Seals" "hangsOn" "[I").before _ s = true) (fun _ h9 => h9) rfl dX1_fakesOfCharter_21 ?_
    refine lv_iload hx hb dX1_fakesOfCharter_24 (lv_at hl 0 rfl) ?_
    refine zi_ald hx hb hK hT 16 (f := (R 16)) (rfl) (i) (rfl) (by omega) (by decide) dX1_fakesOfCharter_26 ?_
    have hb_4 := hB 16 i
    refine lv_iload_n hx hb dX1_fakesOfCharter_27 rfl (lv_at hl 4 rfl) ?_
    refine zi_icmp_ne (tgt := 44) hx hb ⟨by omega, by omega⟩ ⟨by omega, by omega⟩ dX1_fakesOfCharter_28 (by decide) (fun c_5 => ?_) (fun c_5 => ?_)
    · have _ := c_5
      refine zi_inc (v := ((i + 1 : Nat) : Int)) (lv' := [(4, Value.int (iI ((i + 1 : Nat) : Int))), (3, Value.int (iI (cnt (jFC R J q) i))), (0, Value.ref (aj 0)), (1, Value.ref (ad 0)), (2, Value.int (iI q))]) hx hb dX1_fakesOfCharter_44 hl (k := 0) rfl (by omega) (by decide) rfl (fun ls hl => ?_)
      refine lv_goto (tgt := 5) hx hb dX1_fakesOfCharter_47 (by decide) ?_
      have hb_6 : (((i + 1) : Nat) : Int) = ((i + 1 : Nat) : Int) := by first | rfl | omega | (simp [jFC, cnt, c_3, c_5]; done)
      have hb_7 : cnt (jFC R J q) (i + 1) = cnt (jFC R J q) i := by first | rfl | omega | (simp [jFC, cnt, c_3, c_5]; done)
      exact ih_5 hl_i (trivial) _ (lv_eq (lv_sub hl [0, 1, 2, 3, 4] rfl) (by show [(4, Value.int (iI (((i + 1) : Nat) : Int))), (3, Value.int (iI (cnt (jFC R J q) (i + 1)))), (0, Value.ref (aj 0)), (1, Value.ref (ad 0)), (2, Value.int (iI q))] = [(4, Value.int (iI ((i + 1 : Nat) : Int))), (3, Value.int (iI (cnt (jFC R J q) i))), (0, Value.ref (aj 0)), (1, Value.ref (ad 0)), (2, Value.int (iI q))]; rw [hb_6, hb_7]))
    · have _ := c_5
      refine lv_aload_n hx hb dX1_fakesOfCharter_31 rfl (lv_at hl 2 rfl) ?_
      refine va_get (D := g) (ci := 1) (v := Value.ref (aj 3)) (C := RX1) (T := TX1) (N := 6) hx hb hts in_X1_fakesOfCharter_X1 hown hK.1 hJ 0 (rfl) rfl 2 (by decide) (hts _ (List.mem_of_getElem? (i := 4) rfl) : (Cond.fieldLink RX1 20 "CordSeals$Judge" "reason" "[I").before _ s = true) (fun _ h9 => h9) rfl dX1_fakesOfCharter_32 ?_
      refine lv_iload hx hb dX1_fakesOfCharter_35 (lv_at hl 0 rfl) ?_
      refine zi_ald hx hb hK hJ 3 (f := (J 3)) (rfl) (i) (rfl) (by omega) (by decide) dX1_fakesOfCharter_37 ?_
      have hb_8 := hjb 3 i
      refine zi_if_eq (tgt := 44) hx hb ⟨by omega, by omega⟩ dX1_fakesOfCharter_38 (by decide) (fun c_9 => ?_) (fun c_9 => ?_)
      · have _ := c_9
        refine zi_inc (v := ((i + 1 : Nat) : Int)) (lv' := [(4, Value.int (iI ((i + 1 : Nat) : Int))), (3, Value.int (iI (cnt (jFC R J q) i))), (0, Value.ref (aj 0)), (1, Value.ref (ad 0)), (2, Value.int (iI q))]) hx hb dX1_fakesOfCharter_44 hl (k := 0) rfl (by omega) (by decide) rfl (fun ls hl => ?_)
        refine lv_goto (tgt := 5) hx hb dX1_fakesOfCharter_47 (by decide) ?_
        have hb_10 : (((i + 1) : Nat) : Int) = ((i + 1 : Nat) : Int) := by first | rfl | omega | (simp [jFC, cnt, c_3, c_5, c_9]; done)
        have hb_11 : cnt (jFC R J q) (i + 1) = cnt (jFC R J q) i := by first | rfl | omega | (simp [jFC, cnt, c_3, c_5, c_9]; done)
        exact ih_5 hl_i (trivial) _ (lv_eq (lv_sub hl [0, 1, 2, 3, 4] rfl) (by show [(4, Value.int (iI (((i + 1) : Nat) : Int))), (3, Value.int (iI (cnt (jFC R J q) (i + 1)))), (0, Value.ref (aj 0)), (1, Value.ref (ad 0)), (2, Value.int (iI q))] = [(4, Value.int (iI ((i + 1 : Nat) : Int))), (3, Value.int (iI (cnt (jFC R J q) i))), (0, Value.ref (aj 0)), (1, Value.ref (ad 0)), (2, Value.int (iI q))]; rw [hb_10, hb_11]))
      · have _ := c_9
        refine zi_inc (v := (cnt (jFC R J q) i) + 1) (lv' := [(3, Value.int (iI ((cnt (jFC R J q) i) + 1))), (4, Value.int (iI (i : Int))), (0, Value.ref (aj 0)), (1, Value.ref (ad 0)), (2, Value.int (iI q))]) hx hb dX1_fakesOfCharter_41 hl (k := 1) rfl rfl (by decide) rfl (fun ls hl => ?_)
        refine zi_inc (v := ((i + 1 : Nat) : Int)) (lv' := [(4, Value.int (iI ((i + 1 : Nat) : Int))), (3, Value.int (iI ((cnt (jFC R J q) i) + 1))), (0, Value.ref (aj 0)), (1, Value.ref (ad 0)), (2, Value.int (iI q))]) hx hb dX1_fakesOfCharter_44 hl (k := 1) rfl (by omega) (by decide) rfl (fun ls hl => ?_)
        refine lv_goto (tgt := 5) hx hb dX1_fakesOfCharter_47 (by decide) ?_
        have hb_12 : (((i + 1) : Nat) : Int) = ((i + 1 : Nat) : Int) := by first | rfl | omega | (simp [jFC, cnt, c_3, c_5, c_9]; done)
        have hb_13 : cnt (jFC R J q) (i + 1) = (cnt (jFC R J q) i) + 1 := by first | rfl | omega | (simp [jFC, cnt, c_3, c_5, c_9]; done)
        exact ih_5 hl_i (trivial) _ (lv_eq (lv_sub hl [0, 1, 2, 3, 4] rfl) (by show [(4, Value.int (iI (((i + 1) : Nat) : Int))), (3, Value.int (iI (cnt (jFC R J q) (i + 1)))), (0, Value.ref (aj 0)), (1, Value.ref (ad 0)), (2, Value.int (iI q))] = [(4, Value.int (iI ((i + 1 : Nat) : Int))), (3, Value.int (iI ((cnt (jFC R J q) i) + 1))), (0, Value.ref (aj 0)), (1, Value.ref (ad 0)), (2, Value.int (iI q))]; rw [hb_12, hb_13]))

theorem cd_X1_chartersWithFakes : cd yX1_chartersWithFakes 1 := by decide +kernel
set_option maxHeartbeats 1000000 in
set_option maxRecDepth 100000 in
theorem c_X1_chartersWithFakes (l : Launch) (g : va_G) (τ : Nat → ClassId) (ad aj : Nat → Nat) (R J : Nat → Nat → Int) (hI : SI R) (hjb : HB J)  : Met l yX1_chartersWithFakes wsX1_chartersWithFakes { frames := 1, cells := 0, slots := 0, locals := 24 } (va_Pc [Value.ref (aj 0), Value.ref (ad 0)] (roW g τ (juW aj J τ ++ stW ad R τ))) (roQ (some (Value.int (iI (cnt (jCF R J) 6))))) 0 0 nof := by
  have hB := hI.hB
  have hr0 := hI.r
  have hd0 := hI.d
  have hs0 := hI.s
  have hN := hI.hN
  refine roMet (cc := cX1_chartersWithFakes) (maxL := 4) (ret := (some .int)) (lv := [(0, Value.ref (aj 0)), (1, Value.ref (ad 0))]) (by decide) rfl (Nat.le_of_ble_eq_true rfl) rfl ?_
  intro p e s m below meth c hx hb hr hml hts hown hlocks hP hK ls hl
  have hJ := va_left hP
  have hT := va_right hP
  refine lv_iconst (v := iI 0) hx hb dX1_chartersWithFakes_0 (by decide) ?_
  refine lv_istore_n (lv' := [(2, Value.int (iI 0)), (0, Value.ref (aj 0)), (1, Value.ref (ad 0))]) hx hb dX1_chartersWithFakes_1 rfl hl (by decide) rfl (fun ls hl => ?_)
  refine lv_iconst (v := iI 0) hx hb dX1_chartersWithFakes_2 (by decide) ?_
  refine lv_istore_n (lv' := [(3, Value.int (iI 0)), (2, Value.int (iI 0)), (0, Value.ref (aj 0)), (1, Value.ref (ad 0))]) hx hb dX1_chartersWithFakes_3 rfl hl (by decide) rfl (fun ls hl => ?_)
  have h0_1 : cnt (jCF R J) 0 = 0 := by first | rfl | omega | (simp [jCF, cnt]; done)
  refine lp_up (fun i => [(3, Value.int (iI (i : Int))), (2, Value.int (iI (cnt (jCF R J) i))), (0, Value.ref (aj 0)), (1, Value.ref (ad 0))]) (fun i => True) (6) (0) (by omega) (by first | trivial | (intro j hj; omega)) (lv_eq (lv_sub hl [0, 1, 2, 3] rfl) (by show [(3, Value.int (iI 0)), (2, Value.int (iI (cnt (jCF R J) 0))), (0, Value.ref (aj 0)), (1, Value.ref (ad 0))] = [(3, Value.int (iI 0)), (2, Value.int (iI 0)), (0, Value.ref (aj 0)), (1, Value.ref (ad 0))]; rw [h0_1])) (fun i h0_i hi_i hI_i ih_4 ls hl => ?_)
  refine lv_iload_n hx hb dX1_chartersWithFakes_4 rfl (lv_at hl 0 rfl) ?_
  refine lv_bipush (v := iI 6) hx hb dX1_chartersWithFakes_5 (by decide) ?_
  refine zi_icmp_ge (tgt := 28) hx hb ⟨by omega, by omega⟩ ⟨by decide, by decide⟩ dX1_chartersWithFakes_7 (by decide) (fun c_2 => ?_) (fun c_2 => ?_)
  · have _ := c_2
    have h0_i : i = 6 := by omega
    refine lv_iload_n hx hb dX1_chartersWithFakes_28 rfl (lv_at hl 1 rfl) ?_
    exact zo_iret hx hb hr hlocks (by rw [h0_i]) dX1_chartersWithFakes_29
  · have _ := c_2
    have hl_i : i < 6 := by omega
    refine lv_aload_n hx hb dX1_chartersWithFakes_10 rfl (lv_at hl 2 rfl) ?_
    refine lv_aload_n hx hb dX1_chartersWithFakes_11 rfl (lv_at hl 3 rfl) ?_
    refine lv_iload_n hx hb dX1_chartersWithFakes_12 rfl (lv_at hl 0 rfl) ?_
    refine ro_V (As := [Value.ref (ad 0), Value.int (iI (i : Int))]) (rest := []) (v := some (Value.int (iI (cnt (jFC R J (i : Int)) (R 10 0).toNat)))) ⟨hx, hb, hml, hown, hts⟩ (c_X1_fakesOfCharter l g τ ad aj R J hI hjb (i : Int) ⟨by omega, by omega⟩) gX1_chartersWithFakes_X1_fakesOfCharter cd_X1_fakesOfCharter rfl rfl ⟨rfl, rfl⟩ ⟨Nat.le_of_ble_eq_true rfl, Nat.le_of_ble_eq_true rfl⟩ hK hP 0 rfl rfl rfl rfl hl rfl (Nat.le_of_ble_eq_true rfl) dX1_chartersWithFakes_13 ⟨Nat.le_of_ble_eq_true rfl, Nat.le_of_ble_eq_true rfl⟩ ?_
    refine tl_some ?_
    have hcn := cnt_le (jFC R J (i : Int)) (R 10 0).toNat
    refine zi_if_le (tgt := 22) hx hb ⟨by omega, by omega⟩ dX1_chartersWithFakes_16 (by decide) (fun c_3 => ?_) (fun c_3 => ?_)
    · have _ := c_3
      refine zi_inc (v := ((i + 1 : Nat) : Int)) (lv' := [(3, Value.int (iI ((i + 1 : Nat) : Int))), (2, Value.int (iI (cnt (jCF R J) i))), (0, Value.ref (aj 0)), (1, Value.ref (ad 0))]) hx hb dX1_chartersWithFakes_22 hl (k := 0) rfl (by omega) (by decide) rfl (fun ls hl => ?_)
      refine lv_goto (tgt := 4) hx hb dX1_chartersWithFakes_25 (by decide) ?_
      have hb_4 : (((i + 1) : Nat) : Int) = ((i + 1 : Nat) : Int) := by first | rfl | omega | (simp [jCF, cnt, c_2, c_3]; done)
      have hb_5 : cnt (jCF R J) (i + 1) = cnt (jCF R J) i := by first | exact cnt_t (by unfold jCF; exact decide_eq_true (by omega)) | exact cnt_f (by unfold jCF; exact decide_eq_false (by omega))
      exact ih_4 hl_i (trivial) _ (lv_eq (lv_sub hl [0, 1, 2, 3] rfl) (by show [(3, Value.int (iI (((i + 1) : Nat) : Int))), (2, Value.int (iI (cnt (jCF R J) (i + 1)))), (0, Value.ref (aj 0)), (1, Value.ref (ad 0))] = [(3, Value.int (iI ((i + 1 : Nat) : Int))), (2, Value.int (iI (cnt (jCF R J) i))), (0, Value.ref (aj 0)), (1, Value.ref (ad 0))]; rw [hb_4, hb_5]))
    · have _ := c_3
      refine zi_inc (v := (cnt (jCF R J) i) + 1) (lv' := [(2, Value.int (iI ((cnt (jCF R J) i) + 1))), (3, Value.int (iI (i : Int))), (0, Value.ref (aj 0)), (1, Value.ref (ad 0))]) hx hb dX1_chartersWithFakes_19 hl (k := 1) rfl rfl (by decide) rfl (fun ls hl => ?_)
      refine zi_inc (v := ((i + 1 : Nat) : Int)) (lv' := [(3, Value.int (iI ((i + 1 : Nat) : Int))), (2, Value.int (iI ((cnt (jCF R J) i) + 1))), (0, Value.ref (aj 0)), (1, Value.ref (ad 0))]) hx hb dX1_chartersWithFakes_22 hl (k := 1) rfl (by omega) (by decide) rfl (fun ls hl => ?_)
      refine lv_goto (tgt := 4) hx hb dX1_chartersWithFakes_25 (by decide) ?_
      have hb_6 : (((i + 1) : Nat) : Int) = ((i + 1 : Nat) : Int) := by first | rfl | omega | (simp [jCF, cnt, c_2, c_3]; done)
      have hb_7 : cnt (jCF R J) (i + 1) = (cnt (jCF R J) i) + 1 := by first | exact cnt_t (by unfold jCF; exact decide_eq_true (by omega)) | exact cnt_f (by unfold jCF; exact decide_eq_false (by omega))
      exact ih_4 hl_i (trivial) _ (lv_eq (lv_sub hl [0, 1, 2, 3] rfl) (by show [(3, Value.int (iI (((i + 1) : Nat) : Int))), (2, Value.int (iI (cnt (jCF R J) (i + 1)))), (0, Value.ref (aj 0)), (1, Value.ref (ad 0))] = [(3, Value.int (iI ((i + 1 : Nat) : Int))), (2, Value.int (iI ((cnt (jCF R J) i) + 1))), (0, Value.ref (aj 0)), (1, Value.ref (ad 0))]; rw [hb_6, hb_7]))

theorem cd_X1_genuineIn : cd yX1_genuineIn 2 := by decide +kernel
theorem in_X1_genuineIn_X1 : ∀ w ∈ wsX10, w ∈ wsX1_genuineIn := by decide +kernel
theorem in_X1_genuineIn_X4 : ∀ w ∈ wsX40, w ∈ wsX1_genuineIn := by decide +kernel
theorem in_X1_genuineIn_X6 : ∀ w ∈ wsX60, w ∈ wsX1_genuineIn := by decide +kernel
set_option maxHeartbeats 1000000 in
set_option maxRecDepth 100000 in
theorem c_X1_genuineIn (l : Launch) (g : va_G) (τ : Nat → ClassId) (ad aj : Nat → Nat) (R J : Nat → Nat → Int) (hI : SI R) (hjb : HB J) (hjs : ∀ i, i < 31 → 0 ≤ J 2 i) (q : Int) (rq : -2147483648 ≤ q ∧ q < 2147483648)  : Met l yX1_genuineIn wsX1_genuineIn { frames := 2, cells := 0, slots := 0, locals := 44 } (va_Pc [Value.ref (aj 0), Value.ref (ad 0), Value.int (iI q)] (roW g τ (juW aj J τ ++ stW ad R τ))) (roQ (some (Value.int (iI (cnt (jG R J q) ((R 10 0).toNat)))))) 0 0 nof := by
  have hB := hI.hB
  have hr0 := hI.r
  have hd0 := hI.d
  have hs0 := hI.s
  have hN := hI.hN
  refine roMet (cc := cX1_genuineIn) (maxL := 5) (ret := (some .int)) (lv := [(0, Value.ref (aj 0)), (1, Value.ref (ad 0)), (2, Value.int (iI q))]) (by decide) rfl (Nat.le_of_ble_eq_true rfl) rfl ?_
  intro p e s m below meth c hx hb hr hml hts hown hlocks hP hK ls hl
  have hJ := va_left hP
  have hT := va_right hP
  refine lv_iconst (v := iI 0) hx hb dX1_genuineIn_0 (by decide) ?_
  refine lv_istore_n (lv' := [(3, Value.int (iI 0)), (0, Value.ref (aj 0)), (1, Value.ref (ad 0)), (2, Value.int (iI q))]) hx hb dX1_genuineIn_1 rfl hl (by decide) rfl (fun ls hl => ?_)
  refine lv_iconst (v := iI 0) hx hb dX1_genuineIn_2 (by decide) ?_
  refine lv_istore (lv' := [(4, Value.int (iI 0)), (3, Value.int (iI 0)), (0, Value.ref (aj 0)), (1, Value.ref (ad 0)), (2, Value.int (iI q))]) hx hb dX1_genuineIn_3 hl (by decide) rfl (fun ls hl => ?_)
  have h0_1 : cnt (jG R J q) 0 = 0 := by first | rfl | omega | (simp [jG, cnt]; done)
  refine lp_up (fun i => [(4, Value.int (iI (i : Int))), (3, Value.int (iI (cnt (jG R J q) i))), (0, Value.ref (aj 0)), (1, Value.ref (ad 0)), (2, Value.int (iI q))]) (fun i => True) ((R 10 0).toNat) (0) (by omega) (by first | trivial | (intro j hj; omega)) (lv_eq (lv_sub hl [0, 1, 2, 3, 4] rfl) (by show [(4, Value.int (iI 0)), (3, Value.int (iI (cnt (jG R J q) 0))), (0, Value.ref (aj 0)), (1, Value.ref (ad 0)), (2, Value.int (iI q))] = [(4, Value.int (iI 0)), (3, Value.int (iI 0)), (0, Value.ref (aj 0)), (1, Value.ref (ad 0)), (2, Value.int (iI q))]; rw [h0_1])) (fun i h0_i hi_i hI_i ih_5 ls hl => ?_)
  refine lv_iload hx hb dX1_genuineIn_5 (lv_at hl 0 rfl) ?_
  refine lv_aload_n hx hb dX1_genuineIn_7 rfl (lv_at hl 3 rfl) ?_
  refine va_get (D := g) (ci := 6) (v := Value.ref (ad 10)) (C := RX6) (T := TX6) (N := 5) hx hb hts in_X1_genuineIn_X6 hown hK.1 hT 0 (rfl) rfl 2 (by decide) (hts _ (List.mem_of_getElem? (i := 1) rfl) : (Cond.fieldLink RX1 42 "CordSeals$State" "seals" "LCordSeals$Seals;").before _ s = true) (fun _ h9 => h9) rfl dX1_genuineIn_8 ?_
  refine va_get (D := g) (ci := 4) (v := Value.int (iI (R 10 0))) (C := RX4) (T := TX4) (N := 7) hx hb hts in_X1_genuineIn_X4 hown hK.1 hT 10 (rfl) rfl 0 (by decide) (hts _ (List.mem_of_getElem? (i := 2) rfl) : (Cond.fieldLink RX1 48 "CordSeals$Seals" "count" "I").before _ s = true) (fun _ h9 => h9) rfl dX1_genuineIn_11 ?_
  have hb_2 := hB 10 0
  refine zi_icmp_ge (tgt := 54) hx hb ⟨by omega, by omega⟩ ⟨by omega, by omega⟩ dX1_genuineIn_14 (by decide) (fun c_3 => ?_) (fun c_3 => ?_)
  · have _ := c_3
    have h0_i : i = (R 10 0).toNat := by omega
    refine lv_iload_n hx hb dX1_genuineIn_54 rfl (lv_at hl 1 rfl) ?_
    exact zo_iret hx hb hr hlocks (by rw [h0_i]) dX1_genuineIn_55
  · have _ := c_3
    have hl_i : i < (R 10 0).toNat := by omega
    refine lv_aload_n hx hb dX1_genuineIn_17 rfl (lv_at hl 2 rfl) ?_
    refine va_get (D := g) (ci := 1) (v := Value.ref (aj 3)) (C := RX1) (T := TX1) (N := 6) hx hb hts in_X1_genuineIn_X1 hown hK.1 hJ 0 (rfl) rfl 2 (by decide) (hts _ (List.mem_of_getElem? (i := 3) rfl) : (Cond.fieldLink RX1 20 "CordSeals$Judge" "reason" "[I").before _ s = true) (fun _ h9 => h9) rfl dX1_genuineIn_18 ?_
    refine lv_iload hx hb dX1_genuineIn_21 (lv_at hl 0 rfl) ?_
    refine zi_ald hx hb hK hJ 3 (f := (J 3)) (rfl) (i) (rfl) (by omega) (by decide) dX1_genuineIn_23 ?_
    have hb_4 := hjb 3 i
    refine zi_if_ne (tgt := 48) hx hb ⟨by omega, by omega⟩ dX1_genuineIn_24 (by decide) (fun c_5 => ?_) (fun c_5 => ?_)
    · have _ := c_5
      refine zi_inc (v := ((i + 1 : Nat) : Int)) (lv' := [(4, Value.int (iI ((i + 1 : Nat) : Int))), (3, Value.int (iI (cnt (jG R J q) i))), (0, Value.ref (aj 0)), (1, Value.ref (ad 0)), (2, Value.int (iI q))]) hx hb dX1_genuineIn_48 hl (k := 0) rfl (by omega) (by decide) rfl (fun ls hl => ?_)
      refine lv_goto (tgt := 5) hx hb dX1_genuineIn_51 (by decide) ?_
      have hb_6 : (((i + 1) : Nat) : Int) = ((i + 1 : Nat) : Int) := by first | rfl | omega | (simp [jG, cnt, c_3, c_5]; done)
      have hb_7 : cnt (jG R J q) (i + 1) = cnt (jG R J q) i := by first | rfl | omega | (simp [jG, cnt, c_3, c_5]; done)
      exact ih_5 hl_i (trivial) _ (lv_eq (lv_sub hl [0, 1, 2, 3, 4] rfl) (by show [(4, Value.int (iI (((i + 1) : Nat) : Int))), (3, Value.int (iI (cnt (jG R J q) (i + 1)))), (0, Value.ref (aj 0)), (1, Value.ref (ad 0)), (2, Value.int (iI q))] = [(4, Value.int (iI ((i + 1 : Nat) : Int))), (3, Value.int (iI (cnt (jG R J q) i))), (0, Value.ref (aj 0)), (1, Value.ref (ad 0)), (2, Value.int (iI q))]; rw [hb_6, hb_7]))
    · have _ := c_5
      refine lv_aload_n hx hb dX1_genuineIn_27 rfl (lv_at hl 2 rfl) ?_
      refine va_get (D := g) (ci := 1) (v := Value.ref (aj 1)) (C := RX1) (T := TX1) (N := 6) hx hb hts in_X1_genuineIn_X1 hown hK.1 hJ 0 (rfl) rfl 0 (by decide) (hts _ (List.mem_of_getElem? (i := 4) rfl) : (Cond.fieldLink RX1 11 "CordSeals$Judge" "ofSeals" "[LCordSeals$Years;").before _ s = true) (fun _ h9 => h9) rfl dX1_genuineIn_28 ?_
      refine lv_iload hx hb dX1_genuineIn_31 (lv_at hl 0 rfl) ?_
      refine zq_ald hx hb hK hJ 1 3 (C := RX8) (f := (fun i => some (aj (10 + i)))) (rfl) rfl (i) (rfl) (by omega) (by decide) (rfl) dX1_genuineIn_33 ?_
      refine lv_aload_n hx hb dX1_genuineIn_34 rfl (lv_at hl 3 rfl) ?_
      refine va_get (D := g) (ci := 6) (v := Value.ref (ad 1)) (C := RX6) (T := TX6) (N := 5) hx hb hts in_X1_genuineIn_X6 hown hK.1 hT 0 (rfl) rfl 0 (by decide) (hts _ (List.mem_of_getElem? (i := 5) rfl) : (Cond.fieldLink RX1 73 "CordSeals$State" "reigns" "LCordSeals$Reigns;").before _ s = true) (fun _ h9 => h9) rfl dX1_genuineIn_35 ?_
      refine lv_iload_n hx hb dX1_genuineIn_38 rfl (lv_at hl 4 rfl) ?_
      have hj0 := hjb 0 i
      have hj1 := hjb 1 i
      have hj2 := hjb 2 i
      have hj3 := hjs i (by omega)
      refine ro_V (As := [Value.ref (ad 1), Value.int (iI q)]) (rest := []) (v := some (Value.int (iI (zB (yHas R (R 1 0).toNat (J 0 i) (J 1 i) (J 2 i) q))))) ⟨hx, hb, hml, hown, hts⟩ (c_X8_contains l g τ (aj (10 + i)) (J 0 i) (J 1 i) (J 2 i) ⟨by omega, by omega⟩ ⟨by omega, by omega⟩ ⟨by omega, by omega⟩ ad R hB (R 1 0).toNat (by omega) (by omega) q ⟨by omega, by omega⟩) gX1_genuineIn_X8_contains cd_X8_contains rfl rfl ⟨rfl, rfl⟩ ⟨Nat.le_of_ble_eq_true rfl, Nat.le_of_ble_eq_true rfl⟩ hK ((y1 hJ (by omega)).app (hT.sub [1, 2, 3] rfl)) 0 rfl rfl rfl rfl hl rfl (Nat.le_of_ble_eq_true rfl) dX1_genuineIn_39 ⟨Nat.le_of_ble_eq_true rfl, Nat.le_of_ble_eq_true rfl⟩ ?_
      refine tl_some ?_
      refine zb_if_eq (tgt := 48) hx hb dX1_genuineIn_42 (by decide) (fun c_8 => ?_) (fun c_8 => ?_)
      · have _ := c_8
        refine zi_inc (v := ((i + 1 : Nat) : Int)) (lv' := [(4, Value.int (iI ((i + 1 : Nat) : Int))), (3, Value.int (iI (cnt (jG R J q) i))), (0, Value.ref (aj 0)), (1, Value.ref (ad 0)), (2, Value.int (iI q))]) hx hb dX1_genuineIn_48 hl (k := 0) rfl (by omega) (by decide) rfl (fun ls hl => ?_)
        refine lv_goto (tgt := 5) hx hb dX1_genuineIn_51 (by decide) ?_
        have hb_9 : (((i + 1) : Nat) : Int) = ((i + 1 : Nat) : Int) := by first | rfl | omega | (simp [jG, cnt, c_3, c_5, c_8]; done)
        have hb_10 : cnt (jG R J q) (i + 1) = cnt (jG R J q) i := by first | rfl | omega | (simp [jG, cnt, c_3, c_5, c_8]; done)
        exact ih_5 hl_i (trivial) _ (lv_eq (lv_sub hl [0, 1, 2, 3, 4] rfl) (by show [(4, Value.int (iI (((i + 1) : Nat) : Int))), (3, Value.int (iI (cnt (jG R J q) (i + 1)))), (0, Value.ref (aj 0)), (1, Value.ref (ad 0)), (2, Value.int (iI q))] = [(4, Value.int (iI ((i + 1 : Nat) : Int))), (3, Value.int (iI (cnt (jG R J q) i))), (0, Value.ref (aj 0)), (1, Value.ref (ad 0)), (2, Value.int (iI q))]; rw [hb_9, hb_10]))
      · have _ := c_8
        refine zi_inc (v := (cnt (jG R J q) i) + 1) (lv' := [(3, Value.int (iI ((cnt (jG R J q) i) + 1))), (4, Value.int (iI (i : Int))), (0, Value.ref (aj 0)), (1, Value.ref (ad 0)), (2, Value.int (iI q))]) hx hb dX1_genuineIn_45 hl (k := 1) rfl rfl (by decide) rfl (fun ls hl => ?_)
        refine zi_inc (v := ((i + 1 : Nat) : Int)) (lv' := [(4, Value.int (iI ((i + 1 : Nat) : Int))), (3, Value.int (iI ((cnt (jG R J q) i) + 1))), (0, Value.ref (aj 0)), (1, Value.ref (ad 0)), (2, Value.int (iI q))]) hx hb dX1_genuineIn_48 hl (k := 1) rfl (by omega) (by decide) rfl (fun ls hl => ?_)
        refine lv_goto (tgt := 5) hx hb dX1_genuineIn_51 (by decide) ?_
        have hb_11 : (((i + 1) : Nat) : Int) = ((i + 1 : Nat) : Int) := by first | rfl | omega | (simp [jG, cnt, c_3, c_5, c_8]; done)
        have hb_12 : cnt (jG R J q) (i + 1) = (cnt (jG R J q) i) + 1 := by first | rfl | omega | (simp [jG, cnt, c_3, c_5, c_8]; done)
        exact ih_5 hl_i (trivial) _ (lv_eq (lv_sub hl [0, 1, 2, 3, 4] rfl) (by show [(4, Value.int (iI (((i + 1) : Nat) : Int))), (3, Value.int (iI (cnt (jG R J q) (i + 1)))), (0, Value.ref (aj 0)), (1, Value.ref (ad 0)), (2, Value.int (iI q))] = [(4, Value.int (iI ((i + 1 : Nat) : Int))), (3, Value.int (iI ((cnt (jG R J q) i) + 1))), (0, Value.ref (aj 0)), (1, Value.ref (ad 0)), (2, Value.int (iI q))]; rw [hb_11, hb_12]))

theorem cd_X1_rankOf : cd yX1_rankOf 1 := by decide +kernel
theorem in_X1_rankOf_X1 : ∀ w ∈ wsX10, w ∈ wsX1_rankOf := by decide +kernel
set_option maxHeartbeats 1000000 in
set_option maxRecDepth 100000 in
theorem c_X1_rankOf (l : Launch) (g : va_G) (τ : Nat → ClassId) (ad aj : Nat → Nat) (R J : Nat → Nat → Int) (hI : SI R) (hjb : HB J) (t : Nat) (ht : (t : Int) < R 10 0)  : Met l yX1_rankOf wsX1_rankOf { frames := 0, cells := 0, slots := 0, locals := 0 } (va_Pc [Value.ref (aj 0), Value.int (iI (t : Int))] (roW g τ (juW aj J τ ++ stW ad R τ))) (roQ (some (Value.int (iI (rkJ J t))))) 0 0 nof := by
  have hB := hI.hB
  have hr0 := hI.r
  have hd0 := hI.d
  have hs0 := hI.s
  have hN := hI.hN
  refine roMet (cc := cX1_rankOf) (maxL := 2) (ret := (some .int)) (lv := [(0, Value.ref (aj 0)), (1, Value.int (iI (t : Int)))]) (by decide) rfl (Nat.le_of_ble_eq_true rfl) rfl ?_
  intro p e s m below meth c hx hb hr hml hts hown hlocks hP hK ls hl
  have hJ := va_left hP
  have hT := va_right hP
  refine lv_aload_n hx hb dX1_rankOf_0 rfl (lv_at hl 0 rfl) ?_
  refine va_get (D := g) (ci := 1) (v := Value.ref (aj 3)) (C := RX1) (T := TX1) (N := 6) hx hb hts in_X1_rankOf_X1 hown hK.1 hJ 0 (rfl) rfl 2 (by decide) (hts _ (List.mem_of_getElem? (i := 1) rfl) : (Cond.fieldLink RX1 20 "CordSeals$Judge" "reason" "[I").before _ s = true) (fun _ h9 => h9) rfl dX1_rankOf_1 ?_
  refine lv_iload_n hx hb dX1_rankOf_4 rfl (lv_at hl 1 rfl) ?_
  refine zi_ald hx hb hK hJ 3 (f := (J 3)) (rfl) (t) (rfl) (by omega) (by decide) dX1_rankOf_5 ?_
  have hb_1 := hjb 3 t
  refine zi_if_ne (tgt := 18) hx hb ⟨by omega, by omega⟩ dX1_rankOf_6 (by decide) (fun c_2 => ?_) (fun c_2 => ?_)
  · have _ := c_2
    refine lv_sipush (v := iI 2000) hx hb dX1_rankOf_18 (by decide) ?_
    exact zo_iret hx hb hr hlocks (by unfold rkJ; first | (rw [if_pos (by assumption)]) | (rw [if_neg (by assumption)])) dX1_rankOf_21
  · have _ := c_2
    refine lv_aload_n hx hb dX1_rankOf_9 rfl (lv_at hl 0 rfl) ?_
    refine va_get (D := g) (ci := 1) (v := Value.ref (aj 4)) (C := RX1) (T := TX1) (N := 6) hx hb hts in_X1_rankOf_X1 hown hK.1 hJ 0 (rfl) rfl 3 (by decide) (hts _ (List.mem_of_getElem? (i := 2) rfl) : (Cond.fieldLink RX1 24 "CordSeals$Judge" "first" "[I").before _ s = true) (fun _ h9 => h9) rfl dX1_rankOf_10 ?_
    refine lv_iload_n hx hb dX1_rankOf_13 rfl (lv_at hl 1 rfl) ?_
    refine zi_ald hx hb hK hJ 4 (f := (J 4)) (rfl) (t) (rfl) (by omega) (by decide) dX1_rankOf_14 ?_
    have hb_3 := hjb 4 t
    refine lv_goto (tgt := 21) hx hb dX1_rankOf_15 (by decide) ?_
    exact zo_iret hx hb hr hlocks (by unfold rkJ; first | (rw [if_pos (by assumption)]) | (rw [if_neg (by assumption)])) dX1_rankOf_21

theorem cd_X1_isGood : cd yX1_isGood 2 := by decide +kernel
theorem in_X1_isGood_X1 : ∀ w ∈ wsX10, w ∈ wsX1_isGood := by decide +kernel
theorem in_X1_isGood_X5 : ∀ w ∈ wsX50, w ∈ wsX1_isGood := by decide +kernel
theorem in_X1_isGood_X6 : ∀ w ∈ wsX60, w ∈ wsX1_isGood := by decide +kernel
set_option maxHeartbeats 1000000 in
set_option maxRecDepth 100000 in
theorem c_X1_isGood (l : Launch) (g : va_G) (τ : Nat → ClassId) (ad aj : Nat → Nat) (R J : Nat → Nat → Int) (hI : SI R) (hjb : HB J) (h : Nat) (hh : h < 6)  : Met l yX1_isGood wsX1_isGood { frames := 1, cells := 0, slots := 0, locals := 22 } (va_Pc [Value.ref (aj 0), Value.ref (ad 0), Value.int (iI (h : Int))] (roW g τ (juW aj J τ ++ stW ad R τ))) (roQ (some (Value.int (iI (zB (jGood R J h)))))) 0 0 nof := by
  have hB := hI.hB
  have hr0 := hI.r
  have hd0 := hI.d
  have hs0 := hI.s
  have hN := hI.hN
  have hm := hI.hN h hh
  have hsd : shN R h = (R 18 h).toNat := rfl
  refine roMet (cc := cX1_isGood) (maxL := 6) (ret := (some .boolean)) (lv := [(0, Value.ref (aj 0)), (1, Value.ref (ad 0)), (2, Value.int (iI (h : Int)))]) (by decide) rfl (Nat.le_of_ble_eq_true rfl) rfl ?_
  intro p e s m below meth c hx hb hr hml hts hown hlocks hP hK ls hl
  have hJ := va_left hP
  have hT := va_right hP
  refine lv_sipush (v := iI 1000) hx hb dX1_isGood_0 (by decide) ?_
  refine lv_istore_n (lv' := [(3, Value.int (iI 1000)), (0, Value.ref (aj 0)), (1, Value.ref (ad 0)), (2, Value.int (iI (h : Int)))]) hx hb dX1_isGood_3 rfl hl (by decide) rfl (fun ls hl => ?_)
  refine lv_iconst (v := iI 0) hx hb dX1_isGood_4 (by decide) ?_
  refine lv_istore (lv' := [(4, Value.int (iI 0)), (3, Value.int (iI 1000)), (0, Value.ref (aj 0)), (1, Value.ref (ad 0)), (2, Value.int (iI (h : Int)))]) hx hb dX1_isGood_5 hl (by decide) rfl (fun ls hl => ?_)
  have h0_1 : gLat R J h 0 = 1000 := by first | rfl | omega | (simp []; done)
  refine lp_up (fun i => [(4, Value.int (iI (i : Int))), (3, Value.int (iI (gLat R J h i))), (0, Value.ref (aj 0)), (1, Value.ref (ad 0)), (2, Value.int (iI (h : Int)))]) (fun i => ∀ j, j < i → gBad R J h j = false) (shN R h) (0) (by omega) (by first | trivial | (intro j hj; omega)) (lv_eq (lv_sub hl [0, 1, 2, 3, 4] rfl) (by show [(4, Value.int (iI 0)), (3, Value.int (iI (gLat R J h 0))), (0, Value.ref (aj 0)), (1, Value.ref (ad 0)), (2, Value.int (iI (h : Int)))] = [(4, Value.int (iI 0)), (3, Value.int (iI 1000)), (0, Value.ref (aj 0)), (1, Value.ref (ad 0)), (2, Value.int (iI (h : Int)))]; rw [h0_1])) (fun i h0_i hi_i hI_i ih_7 ls hl => ?_)
  have hgl := gLat_r R J hjb h i
  refine lv_iload hx hb dX1_isGood_7 (lv_at hl 0 rfl) ?_
  refine lv_aload_n hx hb dX1_isGood_9 rfl (lv_at hl 3 rfl) ?_
  refine va_get (D := g) (ci := 6) (v := Value.ref (ad 17)) (C := RX6) (T := TX6) (N := 5) hx hb hts in_X1_isGood_X6 hown hK.1 hT 0 (rfl) rfl 3 (by decide) (hts _ (List.mem_of_getElem? (i := 1) rfl) : (Cond.fieldLink RX1 154 "CordSeals$State" "shelves" "LCordSeals$Shelves;").before _ s = true) (fun _ h9 => h9) rfl dX1_isGood_10 ?_
  refine va_get (D := g) (ci := 5) (v := Value.ref (ad 18)) (C := RX5) (T := TX5) (N := 2) hx hb hts in_X1_isGood_X5 hown hK.1 hT 17 (rfl) rfl 0 (by decide) (hts _ (List.mem_of_getElem? (i := 2) rfl) : (Cond.fieldLink RX1 158 "CordSeals$Shelves" "count" "[I").before _ s = true) (fun _ h9 => h9) rfl dX1_isGood_13 ?_
  refine lv_iload_n hx hb dX1_isGood_16 rfl (lv_at hl 4 rfl) ?_
  refine zi_ald hx hb hK hT 18 (f := (R 18)) (rfl) (h) (rfl) (by omega) (by decide) dX1_isGood_17 ?_
  have hb_2 := hB 18 h
  refine zi_icmp_ge (tgt := 80) hx hb ⟨by omega, by omega⟩ ⟨by omega, by omega⟩ dX1_isGood_18 (by decide) (fun c_3 => ?_) (fun c_3 => ?_)
  · have _ := c_3
    have h0_i : i = shN R h := by omega
    refine lv_iconst (v := iI 1) hx hb dX1_isGood_80 (by decide) ?_
    exact zo_zret hx hb hr hlocks (by rw [jGood, ← h0_i, anyB_f hI_i]; rfl) dX1_isGood_81
  · have _ := c_3
    have hl_i : i < shN R h := by omega
    refine lv_aload_n hx hb dX1_isGood_21 rfl (lv_at hl 3 rfl) ?_
    refine va_get (D := g) (ci := 6) (v := Value.ref (ad 17)) (C := RX6) (T := TX6) (N := 5) hx hb hts in_X1_isGood_X6 hown hK.1 hT 0 (rfl) rfl 3 (by decide) (hts _ (List.mem_of_getElem? (i := 1) rfl) : (Cond.fieldLink RX1 154 "CordSeals$State" "shelves" "LCordSeals$Shelves;").before _ s = true) (fun _ h9 => h9) rfl dX1_isGood_22 ?_
    refine lv_iload_n hx hb dX1_isGood_25 rfl (lv_at hl 4 rfl) ?_
    refine lv_iload hx hb dX1_isGood_26 (lv_at hl 0 rfl) ?_
    refine ro_V (As := [Value.int (iI (h : Int)), Value.int (iI (i : Int))]) (rest := []) (v := some (Value.int (iI (R 19 (h * 6 + i))))) ⟨hx, hb, hml, hown, hts⟩ (c_X5_at l g τ ad R h i (by omega) (by omega)) gX1_isGood_X5_at cd_X5_at rfl rfl ⟨rfl, rfl⟩ ⟨Nat.le_of_ble_eq_true rfl, Nat.le_of_ble_eq_true rfl⟩ hK (hT.sub [17, 18, 19] rfl) 0 rfl rfl rfl rfl hl rfl (Nat.le_of_ble_eq_true rfl) dX1_isGood_28 ⟨Nat.le_of_ble_eq_true rfl, Nat.le_of_ble_eq_true rfl⟩ ?_
    refine tl_some ?_
    have hb_4 := hB 19 (h * 6 + i)
    refine cv_i (y := iI (((R 19 (h * 6 + i)).toNat : Nat) : Int)) (congrArg iI (by have := hI.on h i hh (by omega); omega)) ?_
    refine lv_istore (lv' := [(5, Value.int (iI (((R 19 (h * 6 + i)).toNat : Nat) : Int))), (4, Value.int (iI (i : Int))), (3, Value.int (iI (gLat R J h i))), (0, Value.ref (aj 0)), (1, Value.ref (ad 0)), (2, Value.int (iI (h : Int)))]) hx hb dX1_isGood_31 hl (by decide) rfl (fun ls hl => ?_)
    have hon := hI.on h i hh (by omega)
    have hos : (((R 19 (h * 6 + i)).toNat : Nat) : Int) < 24 := by omega
    refine lv_aload_n hx hb dX1_isGood_33 rfl (lv_at hl 3 rfl) ?_
    refine va_get (D := g) (ci := 1) (v := Value.ref (aj 3)) (C := RX1) (T := TX1) (N := 6) hx hb hts in_X1_isGood_X1 hown hK.1 hJ 0 (rfl) rfl 2 (by decide) (hts _ (List.mem_of_getElem? (i := 3) rfl) : (Cond.fieldLink RX1 20 "CordSeals$Judge" "reason" "[I").before _ s = true) (fun _ h9 => h9) rfl dX1_isGood_34 ?_
    refine lv_iload hx hb dX1_isGood_37 (lv_at hl 0 rfl) ?_
    refine zi_ald hx hb hK hJ 3 (f := (J 3)) (rfl) ((R 19 (h * 6 + i)).toNat) (rfl) (by omega) (by decide) dX1_isGood_39 ?_
    have hb_5 := hjb 3 ((R 19 (h * 6 + i)).toNat)
    refine zi_if_ne (tgt := 56) hx hb ⟨by omega, by omega⟩ dX1_isGood_40 (by decide) (fun c_6 => ?_) (fun c_6 => ?_)
    · have _ := c_6
      refine lv_aload_n hx hb dX1_isGood_56 rfl (lv_at hl 3 rfl) ?_
      refine va_get (D := g) (ci := 1) (v := Value.ref (aj 3)) (C := RX1) (T := TX1) (N := 6) hx hb hts in_X1_isGood_X1 hown hK.1 hJ 0 (rfl) rfl 2 (by decide) (hts _ (List.mem_of_getElem? (i := 3) rfl) : (Cond.fieldLink RX1 20 "CordSeals$Judge" "reason" "[I").before _ s = true) (fun _ h9 => h9) rfl dX1_isGood_57 ?_
      refine lv_iload hx hb dX1_isGood_60 (lv_at hl 0 rfl) ?_
      refine zi_ald hx hb hK hJ 3 (f := (J 3)) (rfl) ((R 19 (h * 6 + i)).toNat) (rfl) (by omega) (by decide) dX1_isGood_62 ?_
      have hb_7 := hjb 3 ((R 19 (h * 6 + i)).toNat)
      refine zi_if_ne (tgt := 74) hx hb ⟨by omega, by omega⟩ dX1_isGood_63 (by decide) (fun c_8 => ?_) (fun c_8 => ?_)
      · have _ := c_8
        refine zi_inc (v := ((i + 1 : Nat) : Int)) (lv' := [(4, Value.int (iI ((i + 1 : Nat) : Int))), (5, Value.int (iI (((R 19 (h * 6 + i)).toNat : Nat) : Int))), (3, Value.int (iI (gLat R J h i))), (0, Value.ref (aj 0)), (1, Value.ref (ad 0)), (2, Value.int (iI (h : Int)))]) hx hb dX1_isGood_74 hl (k := 1) rfl (by omega) (by decide) rfl (fun ls hl => ?_)
        refine lv_goto (tgt := 7) hx hb dX1_isGood_77 (by decide) ?_
        have hb_9 : (((i + 1) : Nat) : Int) = ((i + 1 : Nat) : Int) := by first | rfl | omega | (simp [c_3, c_6, c_8]; done)
        have hb_10 : gLat R J h (i + 1) = gLat R J h i := by show (if J 3 ((R 19 (h * 6 + i)).toNat) = 0 then J 4 ((R 19 (h * 6 + i)).toNat) else gLat R J h i) = _; first | exact if_pos (by assumption) | exact if_neg (by assumption)
        exact ih_7 hl_i (lt_step hI_i (by unfold gBad gAt; rw [Bool.and_eq_false_iff]; first | (left; exact decide_eq_false (by assumption)) | (right; exact decide_eq_false (by omega)))) _ (lv_eq (lv_sub hl [0, 2, 3, 4, 5] rfl) (by show [(4, Value.int (iI (((i + 1) : Nat) : Int))), (3, Value.int (iI (gLat R J h (i + 1)))), (0, Value.ref (aj 0)), (1, Value.ref (ad 0)), (2, Value.int (iI (h : Int)))] = [(4, Value.int (iI ((i + 1 : Nat) : Int))), (3, Value.int (iI (gLat R J h i))), (0, Value.ref (aj 0)), (1, Value.ref (ad 0)), (2, Value.int (iI (h : Int)))]; rw [hb_9, hb_10]))
      · have _ := c_8
        refine lv_aload_n hx hb dX1_isGood_66 rfl (lv_at hl 3 rfl) ?_
        refine va_get (D := g) (ci := 1) (v := Value.ref (aj 4)) (C := RX1) (T := TX1) (N := 6) hx hb hts in_X1_isGood_X1 hown hK.1 hJ 0 (rfl) rfl 3 (by decide) (hts _ (List.mem_of_getElem? (i := 4) rfl) : (Cond.fieldLink RX1 24 "CordSeals$Judge" "first" "[I").before _ s = true) (fun _ h9 => h9) rfl dX1_isGood_67 ?_
        refine lv_iload hx hb dX1_isGood_70 (lv_at hl 0 rfl) ?_
        refine zi_ald hx hb hK hJ 4 (f := (J 4)) (rfl) ((R 19 (h * 6 + i)).toNat) (rfl) (by omega) (by decide) dX1_isGood_72 ?_
        have hb_11 := hjb 4 ((R 19 (h * 6 + i)).toNat)
        refine lv_istore_n (lv' := [(3, Value.int (iI (J 4 ((R 19 (h * 6 + i)).toNat)))), (5, Value.int (iI (((R 19 (h * 6 + i)).toNat : Nat) : Int))), (4, Value.int (iI (i : Int))), (0, Value.ref (aj 0)), (1, Value.ref (ad 0)), (2, Value.int (iI (h : Int)))]) hx hb dX1_isGood_73 rfl hl (by decide) rfl (fun ls hl => ?_)
        refine zi_inc (v := ((i + 1 : Nat) : Int)) (lv' := [(4, Value.int (iI ((i + 1 : Nat) : Int))), (3, Value.int (iI (J 4 ((R 19 (h * 6 + i)).toNat)))), (5, Value.int (iI (((R 19 (h * 6 + i)).toNat : Nat) : Int))), (0, Value.ref (aj 0)), (1, Value.ref (ad 0)), (2, Value.int (iI (h : Int)))]) hx hb dX1_isGood_74 hl (k := 2) rfl (by omega) (by decide) rfl (fun ls hl => ?_)
        refine lv_goto (tgt := 7) hx hb dX1_isGood_77 (by decide) ?_
        have hb_12 : (((i + 1) : Nat) : Int) = ((i + 1 : Nat) : Int) := by first | rfl | omega | (simp [c_3, c_6, c_8]; done)
        have hb_13 : gLat R J h (i + 1) = J 4 ((R 19 (h * 6 + i)).toNat) := by show (if J 3 ((R 19 (h * 6 + i)).toNat) = 0 then J 4 ((R 19 (h * 6 + i)).toNat) else gLat R J h i) = _; first | exact if_pos (by assumption) | exact if_neg (by assumption)
        exact ih_7 hl_i (lt_step hI_i (by unfold gBad gAt; rw [Bool.and_eq_false_iff]; first | (left; exact decide_eq_false (by assumption)) | (right; exact decide_eq_false (by omega)))) _ (lv_eq (lv_sub hl [0, 1, 3, 4, 5] rfl) (by show [(4, Value.int (iI (((i + 1) : Nat) : Int))), (3, Value.int (iI (gLat R J h (i + 1)))), (0, Value.ref (aj 0)), (1, Value.ref (ad 0)), (2, Value.int (iI (h : Int)))] = [(4, Value.int (iI ((i + 1 : Nat) : Int))), (3, Value.int (iI (J 4 ((R 19 (h * 6 + i)).toNat)))), (0, Value.ref (aj 0)), (1, Value.ref (ad 0)), (2, Value.int (iI (h : Int)))]; rw [hb_12, hb_13]))
    · have _ := c_6
      refine lv_aload_n hx hb dX1_isGood_43 rfl (lv_at hl 3 rfl) ?_
      refine va_get (D := g) (ci := 1) (v := Value.ref (aj 4)) (C := RX1) (T := TX1) (N := 6) hx hb hts in_X1_isGood_X1 hown hK.1 hJ 0 (rfl) rfl 3 (by decide) (hts _ (List.mem_of_getElem? (i := 4) rfl) : (Cond.fieldLink RX1 24 "CordSeals$Judge" "first" "[I").before _ s = true) (fun _ h9 => h9) rfl dX1_isGood_44 ?_
      refine lv_iload hx hb dX1_isGood_47 (lv_at hl 0 rfl) ?_
      refine zi_ald hx hb hK hJ 4 (f := (J 4)) (rfl) ((R 19 (h * 6 + i)).toNat) (rfl) (by omega) (by decide) dX1_isGood_49 ?_
      have hb_14 := hjb 4 ((R 19 (h * 6 + i)).toNat)
      refine lv_iload_n hx hb dX1_isGood_50 rfl (lv_at hl 2 rfl) ?_
      refine zi_icmp_ge (tgt := 56) hx hb ⟨by omega, by omega⟩ ⟨by omega, by omega⟩ dX1_isGood_51 (by decide) (fun c_15 => ?_) (fun c_15 => ?_)
      · have _ := c_15
        refine lv_aload_n hx hb dX1_isGood_56 rfl (lv_at hl 3 rfl) ?_
        refine va_get (D := g) (ci := 1) (v := Value.ref (aj 3)) (C := RX1) (T := TX1) (N := 6) hx hb hts in_X1_isGood_X1 hown hK.1 hJ 0 (rfl) rfl 2 (by decide) (hts _ (List.mem_of_getElem? (i := 3) rfl) : (Cond.fieldLink RX1 20 "CordSeals$Judge" "reason" "[I").before _ s = true) (fun _ h9 => h9) rfl dX1_isGood_57 ?_
        refine lv_iload hx hb dX1_isGood_60 (lv_at hl 0 rfl) ?_
        refine zi_ald hx hb hK hJ 3 (f := (J 3)) (rfl) ((R 19 (h * 6 + i)).toNat) (rfl) (by omega) (by decide) dX1_isGood_62 ?_
        have hb_16 := hjb 3 ((R 19 (h * 6 + i)).toNat)
        refine zi_if_ne (tgt := 74) hx hb ⟨by omega, by omega⟩ dX1_isGood_63 (by decide) (fun c_17 => ?_) (fun c_17 => ?_)
        · have _ := c_17
          refine zi_inc (v := ((i + 1 : Nat) : Int)) (lv' := [(4, Value.int (iI ((i + 1 : Nat) : Int))), (5, Value.int (iI (((R 19 (h * 6 + i)).toNat : Nat) : Int))), (3, Value.int (iI (gLat R J h i))), (0, Value.ref (aj 0)), (1, Value.ref (ad 0)), (2, Value.int (iI (h : Int)))]) hx hb dX1_isGood_74 hl (k := 1) rfl (by omega) (by decide) rfl (fun ls hl => ?_)
          refine lv_goto (tgt := 7) hx hb dX1_isGood_77 (by decide) ?_
          have hb_18 : (((i + 1) : Nat) : Int) = ((i + 1 : Nat) : Int) := by first | rfl | omega | (simp [c_3, c_6, c_15, c_17]; done)
          have hb_19 : gLat R J h (i + 1) = gLat R J h i := by show (if J 3 ((R 19 (h * 6 + i)).toNat) = 0 then J 4 ((R 19 (h * 6 + i)).toNat) else gLat R J h i) = _; first | exact if_pos (by assumption) | exact if_neg (by assumption)
          exact ih_7 hl_i (lt_step hI_i (by unfold gBad gAt; rw [Bool.and_eq_false_iff]; first | (left; exact decide_eq_false (by assumption)) | (right; exact decide_eq_false (by omega)))) _ (lv_eq (lv_sub hl [0, 2, 3, 4, 5] rfl) (by show [(4, Value.int (iI (((i + 1) : Nat) : Int))), (3, Value.int (iI (gLat R J h (i + 1)))), (0, Value.ref (aj 0)), (1, Value.ref (ad 0)), (2, Value.int (iI (h : Int)))] = [(4, Value.int (iI ((i + 1 : Nat) : Int))), (3, Value.int (iI (gLat R J h i))), (0, Value.ref (aj 0)), (1, Value.ref (ad 0)), (2, Value.int (iI (h : Int)))]; rw [hb_18, hb_19]))
        · have _ := c_17
          refine lv_aload_n hx hb dX1_isGood_66 rfl (lv_at hl 3 rfl) ?_
          refine va_get (D := g) (ci := 1) (v := Value.ref (aj 4)) (C := RX1) (T := TX1) (N := 6) hx hb hts in_X1_isGood_X1 hown hK.1 hJ 0 (rfl) rfl 3 (by decide) (hts _ (List.mem_of_getElem? (i := 4) rfl) : (Cond.fieldLink RX1 24 "CordSeals$Judge" "first" "[I").before _ s = true) (fun _ h9 => h9) rfl dX1_isGood_67 ?_
          refine lv_iload hx hb dX1_isGood_70 (lv_at hl 0 rfl) ?_
          refine zi_ald hx hb hK hJ 4 (f := (J 4)) (rfl) ((R 19 (h * 6 + i)).toNat) (rfl) (by omega) (by decide) dX1_isGood_72 ?_
          have hb_20 := hjb 4 ((R 19 (h * 6 + i)).toNat)
          refine lv_istore_n (lv' := [(3, Value.int (iI (J 4 ((R 19 (h * 6 + i)).toNat)))), (5, Value.int (iI (((R 19 (h * 6 + i)).toNat : Nat) : Int))), (4, Value.int (iI (i : Int))), (0, Value.ref (aj 0)), (1, Value.ref (ad 0)), (2, Value.int (iI (h : Int)))]) hx hb dX1_isGood_73 rfl hl (by decide) rfl (fun ls hl => ?_)
          refine zi_inc (v := ((i + 1 : Nat) : Int)) (lv' := [(4, Value.int (iI ((i + 1 : Nat) : Int))), (3, Value.int (iI (J 4 ((R 19 (h * 6 + i)).toNat)))), (5, Value.int (iI (((R 19 (h * 6 + i)).toNat : Nat) : Int))), (0, Value.ref (aj 0)), (1, Value.ref (ad 0)), (2, Value.int (iI (h : Int)))]) hx hb dX1_isGood_74 hl (k := 2) rfl (by omega) (by decide) rfl (fun ls hl => ?_)
          refine lv_goto (tgt := 7) hx hb dX1_isGood_77 (by decide) ?_
          have hb_21 : (((i + 1) : Nat) : Int) = ((i + 1 : Nat) : Int) := by first | rfl | omega | (simp [c_3, c_6, c_15, c_17]; done)
          have hb_22 : gLat R J h (i + 1) = J 4 ((R 19 (h * 6 + i)).toNat) := by show (if J 3 ((R 19 (h * 6 + i)).toNat) = 0 then J 4 ((R 19 (h * 6 + i)).toNat) else gLat R J h i) = _; first | exact if_pos (by assumption) | exact if_neg (by assumption)
          exact ih_7 hl_i (lt_step hI_i (by unfold gBad gAt; rw [Bool.and_eq_false_iff]; first | (left; exact decide_eq_false (by assumption)) | (right; exact decide_eq_false (by omega)))) _ (lv_eq (lv_sub hl [0, 1, 3, 4, 5] rfl) (by show [(4, Value.int (iI (((i + 1) : Nat) : Int))), (3, Value.int (iI (gLat R J h (i + 1)))), (0, Value.ref (aj 0)), (1, Value.ref (ad 0)), (2, Value.int (iI (h : Int)))] = [(4, Value.int (iI ((i + 1 : Nat) : Int))), (3, Value.int (iI (J 4 ((R 19 (h * 6 + i)).toNat)))), (0, Value.ref (aj 0)), (1, Value.ref (ad 0)), (2, Value.int (iI (h : Int)))]; rw [hb_21, hb_22]))
      · have _ := c_15
        refine lv_iconst (v := iI 0) hx hb dX1_isGood_54 (by decide) ?_
        exact zo_zret hx hb hr hlocks (by rw [jGood, anyB_t (i := i) (by unfold gBad gAt; rw [Bool.and_eq_true_iff]; exact ⟨decide_eq_true (by assumption), decide_eq_true (by omega)⟩) hl_i]; rfl) dX1_isGood_55

theorem cd_X1_badShelves : cd yX1_badShelves 1 := by decide +kernel
set_option maxHeartbeats 1000000 in
set_option maxRecDepth 100000 in
theorem c_X1_badShelves (l : Launch) (g : va_G) (τ : Nat → ClassId) (ad aj : Nat → Nat) (R J : Nat → Nat → Int) (hI : SI R) (hjb : HB J)  : Met l yX1_badShelves wsX1_badShelves { frames := 2, cells := 0, slots := 0, locals := 47 } (va_Pc [Value.ref (aj 0), Value.ref (ad 0)] (roW g τ (juW aj J τ ++ stW ad R τ))) (roQ (some (Value.int (iI (cnt (fun h => !jGood R J h) 6))))) 0 0 nof := by
  have hB := hI.hB
  have hr0 := hI.r
  have hd0 := hI.d
  have hs0 := hI.s
  have hN := hI.hN
  refine roMet (cc := cX1_badShelves) (maxL := 4) (ret := (some .int)) (lv := [(0, Value.ref (aj 0)), (1, Value.ref (ad 0))]) (by decide) rfl (Nat.le_of_ble_eq_true rfl) rfl ?_
  intro p e s m below meth c hx hb hr hml hts hown hlocks hP hK ls hl
  have hJ := va_left hP
  have hT := va_right hP
  refine lv_iconst (v := iI 0) hx hb dX1_badShelves_0 (by decide) ?_
  refine lv_istore_n (lv' := [(2, Value.int (iI 0)), (0, Value.ref (aj 0)), (1, Value.ref (ad 0))]) hx hb dX1_badShelves_1 rfl hl (by decide) rfl (fun ls hl => ?_)
  refine lv_iconst (v := iI 0) hx hb dX1_badShelves_2 (by decide) ?_
  refine lv_istore_n (lv' := [(3, Value.int (iI 0)), (2, Value.int (iI 0)), (0, Value.ref (aj 0)), (1, Value.ref (ad 0))]) hx hb dX1_badShelves_3 rfl hl (by decide) rfl (fun ls hl => ?_)
  have h0_1 : cnt (fun h => !jGood R J h) 0 = 0 := by first | rfl | omega | (simp [cnt]; done)
  refine lp_up (fun i => [(3, Value.int (iI (i : Int))), (2, Value.int (iI (cnt (fun h => !jGood R J h) i))), (0, Value.ref (aj 0)), (1, Value.ref (ad 0))]) (fun i => True) (6) (0) (by omega) (by first | trivial | (intro j hj; omega)) (lv_eq (lv_sub hl [0, 1, 2, 3] rfl) (by show [(3, Value.int (iI 0)), (2, Value.int (iI (cnt (fun h => !jGood R J h) 0))), (0, Value.ref (aj 0)), (1, Value.ref (ad 0))] = [(3, Value.int (iI 0)), (2, Value.int (iI 0)), (0, Value.ref (aj 0)), (1, Value.ref (ad 0))]; rw [h0_1])) (fun i h0_i hi_i hI_i ih_4 ls hl => ?_)
  refine lv_iload_n hx hb dX1_badShelves_4 rfl (lv_at hl 0 rfl) ?_
  refine lv_bipush (v := iI 6) hx hb dX1_badShelves_5 (by decide) ?_
  refine zi_icmp_ge (tgt := 28) hx hb ⟨by omega, by omega⟩ ⟨by decide, by decide⟩ dX1_badShelves_7 (by decide) (fun c_2 => ?_) (fun c_2 => ?_)
  · have _ := c_2
    have h0_i : i = 6 := by omega
    refine lv_iload_n hx hb dX1_badShelves_28 rfl (lv_at hl 1 rfl) ?_
    exact zo_iret hx hb hr hlocks (by rw [h0_i]) dX1_badShelves_29
  · have _ := c_2
    have hl_i : i < 6 := by omega
    refine lv_aload_n hx hb dX1_badShelves_10 rfl (lv_at hl 2 rfl) ?_
    refine lv_aload_n hx hb dX1_badShelves_11 rfl (lv_at hl 3 rfl) ?_
    refine lv_iload_n hx hb dX1_badShelves_12 rfl (lv_at hl 0 rfl) ?_
    refine ro_V (As := [Value.ref (ad 0), Value.int (iI (i : Int))]) (rest := []) (v := some (Value.int (iI (zB (jGood R J i))))) ⟨hx, hb, hml, hown, hts⟩ (c_X1_isGood l g τ ad aj R J hI hjb i (by omega)) gX1_badShelves_X1_isGood cd_X1_isGood rfl rfl ⟨rfl, rfl⟩ ⟨Nat.le_of_ble_eq_true rfl, Nat.le_of_ble_eq_true rfl⟩ hK hP 0 rfl rfl rfl rfl hl rfl (Nat.le_of_ble_eq_true rfl) dX1_badShelves_13 ⟨Nat.le_of_ble_eq_true rfl, Nat.le_of_ble_eq_true rfl⟩ ?_
    refine tl_some ?_
    refine zb_if_ne (tgt := 22) hx hb dX1_badShelves_16 (by decide) (fun c_3 => ?_) (fun c_3 => ?_)
    · have _ := c_3
      refine zi_inc (v := ((i + 1 : Nat) : Int)) (lv' := [(3, Value.int (iI ((i + 1 : Nat) : Int))), (2, Value.int (iI (cnt (fun h => !jGood R J h) i))), (0, Value.ref (aj 0)), (1, Value.ref (ad 0))]) hx hb dX1_badShelves_22 hl (k := 0) rfl (by omega) (by decide) rfl (fun ls hl => ?_)
      refine lv_goto (tgt := 4) hx hb dX1_badShelves_25 (by decide) ?_
      have hb_4 : (((i + 1) : Nat) : Int) = ((i + 1 : Nat) : Int) := by first | rfl | omega | (simp [cnt, c_2, c_3]; done)
      have hb_5 : cnt (fun h => !jGood R J h) (i + 1) = cnt (fun h => !jGood R J h) i := by first | rfl | omega | (simp [cnt, c_2, c_3]; done)
      exact ih_4 hl_i (trivial) _ (lv_eq (lv_sub hl [0, 1, 2, 3] rfl) (by show [(3, Value.int (iI (((i + 1) : Nat) : Int))), (2, Value.int (iI (cnt (fun h => !jGood R J h) (i + 1)))), (0, Value.ref (aj 0)), (1, Value.ref (ad 0))] = [(3, Value.int (iI ((i + 1 : Nat) : Int))), (2, Value.int (iI (cnt (fun h => !jGood R J h) i))), (0, Value.ref (aj 0)), (1, Value.ref (ad 0))]; rw [hb_4, hb_5]))
    · have _ := c_3
      refine zi_inc (v := (cnt (fun h => !jGood R J h) i) + 1) (lv' := [(2, Value.int (iI ((cnt (fun h => !jGood R J h) i) + 1))), (3, Value.int (iI (i : Int))), (0, Value.ref (aj 0)), (1, Value.ref (ad 0))]) hx hb dX1_badShelves_19 hl (k := 1) rfl rfl (by decide) rfl (fun ls hl => ?_)
      refine zi_inc (v := ((i + 1 : Nat) : Int)) (lv' := [(3, Value.int (iI ((i + 1 : Nat) : Int))), (2, Value.int (iI ((cnt (fun h => !jGood R J h) i) + 1))), (0, Value.ref (aj 0)), (1, Value.ref (ad 0))]) hx hb dX1_badShelves_22 hl (k := 1) rfl (by omega) (by decide) rfl (fun ls hl => ?_)
      refine lv_goto (tgt := 4) hx hb dX1_badShelves_25 (by decide) ?_
      have hb_6 : (((i + 1) : Nat) : Int) = ((i + 1 : Nat) : Int) := by first | rfl | omega | (simp [cnt, c_2, c_3]; done)
      have hb_7 : cnt (fun h => !jGood R J h) (i + 1) = (cnt (fun h => !jGood R J h) i) + 1 := by first | rfl | omega | (simp [cnt, c_2, c_3]; done)
      exact ih_4 hl_i (trivial) _ (lv_eq (lv_sub hl [0, 1, 2, 3] rfl) (by show [(3, Value.int (iI (((i + 1) : Nat) : Int))), (2, Value.int (iI (cnt (fun h => !jGood R J h) (i + 1)))), (0, Value.ref (aj 0)), (1, Value.ref (ad 0))] = [(3, Value.int (iI ((i + 1 : Nat) : Int))), (2, Value.int (iI ((cnt (fun h => !jGood R J h) i) + 1))), (0, Value.ref (aj 0)), (1, Value.ref (ad 0))]; rw [hb_6, hb_7]))

theorem cd_X1_isAhead : cd yX1_isAhead 3 := by decide +kernel
theorem in_X1_isAhead_X1 : ∀ w ∈ wsX10, w ∈ wsX1_isAhead := by decide +kernel
theorem in_X1_isAhead_X6 : ∀ w ∈ wsX60, w ∈ wsX1_isAhead := by decide +kernel
set_option maxHeartbeats 1000000 in
set_option maxRecDepth 100000 in
theorem c_X1_isAhead (l : Launch) (g : va_G) (τ : Nat → ClassId) (ad aj : Nat → Nat) (R J : Nat → Nat → Int) (hI : SI R) (hjb : HB J) (hjs : ∀ i, i < 31 → 0 ≤ J 2 i) (t u : Nat) (ht : (t : Int) < R 10 0) (hu : (u : Int) < R 10 0)  : Met l yX1_isAhead wsX1_isAhead { frames := 2, cells := 0, slots := 0, locals := 44 } (va_Pc [Value.ref (aj 0), Value.ref (ad 0), Value.int (iI (t : Int)), Value.int (iI (u : Int))] (roW g τ (juW aj J τ ++ stW ad R τ))) (roQ (some (Value.int (iI (zB (jAh R J t u)))))) 0 0 nof := by
  have hB := hI.hB
  have hr0 := hI.r
  have hd0 := hI.d
  have hs0 := hI.s
  have hN := hI.hN
  refine roMet (cc := cX1_isAhead) (maxL := 5) (ret := (some .boolean)) (lv := [(0, Value.ref (aj 0)), (1, Value.ref (ad 0)), (2, Value.int (iI (t : Int))), (3, Value.int (iI (u : Int)))]) (by decide) rfl (Nat.le_of_ble_eq_true rfl) rfl ?_
  intro p e s m below meth c hx hb hr hml hts hown hlocks hP hK ls hl
  have hJ := va_left hP
  have hT := va_right hP
  refine lv_aload_n hx hb dX1_isAhead_0 rfl (lv_at hl 0 rfl) ?_
  refine va_get (D := g) (ci := 1) (v := Value.ref (aj 1)) (C := RX1) (T := TX1) (N := 6) hx hb hts in_X1_isAhead_X1 hown hK.1 hJ 0 (rfl) rfl 0 (by decide) (hts _ (List.mem_of_getElem? (i := 1) rfl) : (Cond.fieldLink RX1 11 "CordSeals$Judge" "ofSeals" "[LCordSeals$Years;").before _ s = true) (fun _ h9 => h9) rfl dX1_isAhead_1 ?_
  refine lv_iload_n hx hb dX1_isAhead_4 rfl (lv_at hl 2 rfl) ?_
  refine zq_ald hx hb hK hJ 1 3 (C := RX8) (f := (fun i => some (aj (10 + i)))) (rfl) rfl (t) (rfl) (by omega) (by decide) (rfl) dX1_isAhead_5 ?_
  refine lv_aload_n hx hb dX1_isAhead_6 rfl (lv_at hl 1 rfl) ?_
  refine va_get (D := g) (ci := 6) (v := Value.ref (ad 1)) (C := RX6) (T := TX6) (N := 5) hx hb hts in_X1_isAhead_X6 hown hK.1 hT 0 (rfl) rfl 0 (by decide) (hts _ (List.mem_of_getElem? (i := 2) rfl) : (Cond.fieldLink RX1 73 "CordSeals$State" "reigns" "LCordSeals$Reigns;").before _ s = true) (fun _ h9 => h9) rfl dX1_isAhead_7 ?_
  have hj0 := hjb 0 t
  have hj1 := hjb 1 t
  have hj2 := hjb 2 t
  have hj3 := hjs t (by omega)
  refine ro_V (As := [Value.ref (ad 1)]) (rest := []) (v := some (Value.int (iI (yLast R (R 1 0).toNat (J 0 t) (J 1 t) (J 2 t))))) ⟨hx, hb, hml, hown, hts⟩ (c_X8_last l g τ (aj (10 + t)) (J 0 t) (J 1 t) (J 2 t) ⟨by omega, by omega⟩ ⟨by omega, by omega⟩ ⟨by omega, by omega⟩ ad R hB (R 1 0).toNat (by omega) (by omega)) gX1_isAhead_X8_last cd_X8_last rfl rfl ⟨rfl, rfl⟩ ⟨Nat.le_of_ble_eq_true rfl, Nat.le_of_ble_eq_true rfl⟩ hK ((y1 hJ (by omega)).app (hT.sub [1, 2, 3] rfl)) 0 rfl rfl rfl rfl hl rfl (Nat.le_of_ble_eq_true rfl) dX1_isAhead_10 ⟨Nat.le_of_ble_eq_true rfl, Nat.le_of_ble_eq_true rfl⟩ ?_
  refine tl_some ?_
  have hyl := yLast_r hB (R 1 0).toNat (J 0 t) (hi := (J 1 t)) ⟨by omega, by omega⟩ (J 2 t)
  refine lv_istore (lv' := [(4, Value.int (iI (yLast R (R 1 0).toNat (J 0 t) (J 1 t) (J 2 t)))), (0, Value.ref (aj 0)), (1, Value.ref (ad 0)), (2, Value.int (iI (t : Int))), (3, Value.int (iI (u : Int)))]) hx hb dX1_isAhead_13 hl (by decide) rfl (fun ls hl => ?_)
  refine lv_iload hx hb dX1_isAhead_15 (lv_at hl 0 rfl) ?_
  refine lv_iconst (v := iI (-1)) hx hb dX1_isAhead_17 (by decide) ?_
  refine zi_icmp_eq (tgt := 36) hx hb ⟨by omega, by omega⟩ ⟨by decide, by decide⟩ dX1_isAhead_18 (by decide) (fun c_1 => ?_) (fun c_1 => ?_)
  · have _ := c_1
    refine lv_iconst (v := iI 0) hx hb dX1_isAhead_36 (by decide) ?_
    exact zo_zret hx hb hr hlocks (by unfold jAh; first | (rw [Bool.and_eq_true_iff.mpr ⟨decide_eq_true (by assumption), decide_eq_true (by assumption)⟩]; rfl) | (rw [Bool.and_eq_false_iff.mpr (by first | exact Or.inl (decide_eq_false (by omega)) | exact Or.inr (decide_eq_false (by omega)))]; rfl)) dX1_isAhead_37
  · have _ := c_1
    refine lv_iload hx hb dX1_isAhead_21 (lv_at hl 0 rfl) ?_
    refine lv_aload_n hx hb dX1_isAhead_23 rfl (lv_at hl 1 rfl) ?_
    refine va_get (D := g) (ci := 1) (v := Value.ref (aj 4)) (C := RX1) (T := TX1) (N := 6) hx hb hts in_X1_isAhead_X1 hown hK.1 hJ 0 (rfl) rfl 3 (by decide) (hts _ (List.mem_of_getElem? (i := 3) rfl) : (Cond.fieldLink RX1 24 "CordSeals$Judge" "first" "[I").before _ s = true) (fun _ h9 => h9) rfl dX1_isAhead_24 ?_
    refine lv_iload_n hx hb dX1_isAhead_27 rfl (lv_at hl 4 rfl) ?_
    refine zi_ald hx hb hK hJ 4 (f := (J 4)) (rfl) (u) (rfl) (by omega) (by decide) dX1_isAhead_28 ?_
    have hb_2 := hjb 4 u
    refine zi_icmp_ge (tgt := 36) hx hb ⟨by omega, by omega⟩ ⟨by omega, by omega⟩ dX1_isAhead_29 (by decide) (fun c_3 => ?_) (fun c_3 => ?_)
    · have _ := c_3
      refine lv_iconst (v := iI 0) hx hb dX1_isAhead_36 (by decide) ?_
      exact zo_zret hx hb hr hlocks (by unfold jAh; first | (rw [Bool.and_eq_true_iff.mpr ⟨decide_eq_true (by assumption), decide_eq_true (by assumption)⟩]; rfl) | (rw [Bool.and_eq_false_iff.mpr (by first | exact Or.inl (decide_eq_false (by omega)) | exact Or.inr (decide_eq_false (by omega)))]; rfl)) dX1_isAhead_37
    · have _ := c_3
      refine lv_iconst (v := iI 1) hx hb dX1_isAhead_32 (by decide) ?_
      refine lv_goto (tgt := 37) hx hb dX1_isAhead_33 (by decide) ?_
      exact zo_zret hx hb hr hlocks (by unfold jAh; first | (rw [Bool.and_eq_true_iff.mpr ⟨decide_eq_true (by assumption), decide_eq_true (by assumption)⟩]; rfl) | (rw [Bool.and_eq_false_iff.mpr (by first | exact Or.inl (decide_eq_false (by omega)) | exact Or.inr (decide_eq_false (by omega)))]; rfl)) dX1_isAhead_37

theorem cd_X1_dates : cd yX1_dates 3 := by decide +kernel
theorem in_X1_dates_X1 : ∀ w ∈ wsX10, w ∈ wsX1_dates := by decide +kernel
theorem in_X1_dates_X4 : ∀ w ∈ wsX40, w ∈ wsX1_dates := by decide +kernel
theorem in_X1_dates_X6 : ∀ w ∈ wsX60, w ∈ wsX1_dates := by decide +kernel
set_option maxHeartbeats 1000000 in
set_option maxRecDepth 100000 in
theorem c_X1_dates (l : Launch) (g : va_G) (τ : Nat → ClassId) (ad aj : Nat → Nat) (R J : Nat → Nat → Int) (hI : SI R) (hjb : HB J) (t : Nat) (ht : (t : Int) < R 10 0) (q : Int) (rq : -2147483648 ≤ q ∧ q < 2147483648)  : Met l yX1_dates wsX1_dates { frames := 0, cells := 0, slots := 0, locals := 0 } (va_Pc [Value.ref (aj 0), Value.ref (ad 0), Value.int (iI (t : Int)), Value.int (iI q)] (roW g τ (juW aj J τ ++ stW ad R τ))) (roQ (some (Value.int (iI (zB (jD R J q t)))))) 0 0 nof := by
  have hB := hI.hB
  have hr0 := hI.r
  have hd0 := hI.d
  have hs0 := hI.s
  have hN := hI.hN
  refine roMet (cc := cX1_dates) (maxL := 4) (ret := (some .boolean)) (lv := [(0, Value.ref (aj 0)), (1, Value.ref (ad 0)), (2, Value.int (iI (t : Int))), (3, Value.int (iI q))]) (by decide) rfl (Nat.le_of_ble_eq_true rfl) rfl ?_
  intro p e s m below meth c hx hb hr hml hts hown hlocks hP hK ls hl
  have hJ := va_left hP
  have hT := va_right hP
  refine lv_aload_n hx hb dX1_dates_0 rfl (lv_at hl 1 rfl) ?_
  refine va_get (D := g) (ci := 6) (v := Value.ref (ad 10)) (C := RX6) (T := TX6) (N := 5) hx hb hts in_X1_dates_X6 hown hK.1 hT 0 (rfl) rfl 2 (by decide) (hts _ (List.mem_of_getElem? (i := 1) rfl) : (Cond.fieldLink RX1 42 "CordSeals$State" "seals" "LCordSeals$Seals;").before _ s = true) (fun _ h9 => h9) rfl dX1_dates_1 ?_
  refine va_get (D := g) (ci := 4) (v := Value.ref (ad 16)) (C := RX4) (T := TX4) (N := 7) hx hb hts in_X1_dates_X4 hown hK.1 hT 10 (rfl) rfl 6 (by decide) (hts _ (List.mem_of_getElem? (i := 2) rfl) : (Cond.fieldLink RX1 121 "CordSeals$Seals" "hangsOn" "[I").before _ s = true) (fun _ h9 => h9) rfl dX1_dates_4 ?_
  refine lv_iload_n hx hb dX1_dates_7 rfl (lv_at hl 2 rfl) ?_
  refine zi_ald hx hb hK hT 16 (f := (R 16)) (rfl) (t) (rfl) (by omega) (by decide) dX1_dates_8 ?_
  have hb_1 := hB 16 t
  refine lv_iload_n hx hb dX1_dates_9 rfl (lv_at hl 3 rfl) ?_
  refine zi_icmp_ne (tgt := 36) hx hb ⟨by omega, by omega⟩ ⟨by omega, by omega⟩ dX1_dates_10 (by decide) (fun c_2 => ?_) (fun c_2 => ?_)
  · have _ := c_2
    refine lv_iconst (v := iI 0) hx hb dX1_dates_36 (by decide) ?_
    exact zo_zret hx hb hr hlocks (by unfold jD; first | (rw [Bool.and_eq_true_iff.mpr ⟨decide_eq_true (by assumption), by simp; omega⟩]; rfl) | (rw [Bool.and_eq_false_iff.mpr (by first | exact Or.inl (decide_eq_false (by omega)) | (right; simp; omega))]; rfl)) dX1_dates_37
  · have _ := c_2
    refine lv_aload_n hx hb dX1_dates_13 rfl (lv_at hl 0 rfl) ?_
    refine va_get (D := g) (ci := 1) (v := Value.ref (aj 3)) (C := RX1) (T := TX1) (N := 6) hx hb hts in_X1_dates_X1 hown hK.1 hJ 0 (rfl) rfl 2 (by decide) (hts _ (List.mem_of_getElem? (i := 3) rfl) : (Cond.fieldLink RX1 20 "CordSeals$Judge" "reason" "[I").before _ s = true) (fun _ h9 => h9) rfl dX1_dates_14 ?_
    refine lv_iload_n hx hb dX1_dates_17 rfl (lv_at hl 2 rfl) ?_
    refine zi_ald hx hb hK hJ 3 (f := (J 3)) (rfl) (t) (rfl) (by omega) (by decide) dX1_dates_18 ?_
    have hb_3 := hjb 3 t
    refine zi_if_eq (tgt := 32) hx hb ⟨by omega, by omega⟩ dX1_dates_19 (by decide) (fun c_4 => ?_) (fun c_4 => ?_)
    · have _ := c_4
      refine lv_iconst (v := iI 1) hx hb dX1_dates_32 (by decide) ?_
      refine lv_goto (tgt := 37) hx hb dX1_dates_33 (by decide) ?_
      exact zo_zret hx hb hr hlocks (by unfold jD; first | (rw [Bool.and_eq_true_iff.mpr ⟨decide_eq_true (by assumption), by simp; omega⟩]; rfl) | (rw [Bool.and_eq_false_iff.mpr (by first | exact Or.inl (decide_eq_false (by omega)) | (right; simp; omega))]; rfl)) dX1_dates_37
    · have _ := c_4
      refine lv_aload_n hx hb dX1_dates_22 rfl (lv_at hl 0 rfl) ?_
      refine va_get (D := g) (ci := 1) (v := Value.ref (aj 3)) (C := RX1) (T := TX1) (N := 6) hx hb hts in_X1_dates_X1 hown hK.1 hJ 0 (rfl) rfl 2 (by decide) (hts _ (List.mem_of_getElem? (i := 3) rfl) : (Cond.fieldLink RX1 20 "CordSeals$Judge" "reason" "[I").before _ s = true) (fun _ h9 => h9) rfl dX1_dates_23 ?_
      refine lv_iload_n hx hb dX1_dates_26 rfl (lv_at hl 2 rfl) ?_
      refine zi_ald hx hb hK hJ 3 (f := (J 3)) (rfl) (t) (rfl) (by omega) (by decide) dX1_dates_27 ?_
      have hb_5 := hjb 3 t
      refine lv_iconst (v := iI 4) hx hb dX1_dates_28 (by decide) ?_
      refine zi_icmp_ne (tgt := 36) hx hb ⟨by omega, by omega⟩ ⟨by decide, by decide⟩ dX1_dates_29 (by decide) (fun c_6 => ?_) (fun c_6 => ?_)
      · have _ := c_6
        refine lv_iconst (v := iI 0) hx hb dX1_dates_36 (by decide) ?_
        exact zo_zret hx hb hr hlocks (by unfold jD; first | (rw [Bool.and_eq_true_iff.mpr ⟨decide_eq_true (by assumption), by simp; omega⟩]; rfl) | (rw [Bool.and_eq_false_iff.mpr (by first | exact Or.inl (decide_eq_false (by omega)) | (right; simp; omega))]; rfl)) dX1_dates_37
      · have _ := c_6
        refine lv_iconst (v := iI 1) hx hb dX1_dates_32 (by decide) ?_
        refine lv_goto (tgt := 37) hx hb dX1_dates_33 (by decide) ?_
        exact zo_zret hx hb hr hlocks (by unfold jD; first | (rw [Bool.and_eq_true_iff.mpr ⟨decide_eq_true (by assumption), by simp; omega⟩]; rfl) | (rw [Bool.and_eq_false_iff.mpr (by first | exact Or.inl (decide_eq_false (by omega)) | (right; simp; omega))]; rfl)) dX1_dates_37

theorem cd_X1_ownReason : cd yX1_ownReason 2 := by decide +kernel
theorem in_X1_ownReason_X1 : ∀ w ∈ wsX10, w ∈ wsX1_ownReason := by decide +kernel
theorem in_X1_ownReason_X4 : ∀ w ∈ wsX40, w ∈ wsX1_ownReason := by decide +kernel
theorem in_X1_ownReason_X6 : ∀ w ∈ wsX60, w ∈ wsX1_ownReason := by decide +kernel
theorem in_X1_ownReason_X8 : ∀ w ∈ wsX80, w ∈ wsX1_ownReason := by decide +kernel
set_option maxHeartbeats 1000000 in
set_option maxRecDepth 100000 in
theorem c_X1_ownReason (l : Launch) (g : va_G) (τ : Nat → ClassId) (ad aj : Nat → Nat) (R J : Nat → Nat → Int) (hI : SI R) (hjb : HB J) (t : Nat) (ht : (t : Int) < R 10 0)  : Met l yX1_ownReason wsX1_ownReason { frames := 0, cells := 0, slots := 0, locals := 0 } (va_Pc [Value.ref (aj 0), Value.ref (ad 0), Value.int (iI (t : Int))] (roW g τ (juW aj J τ ++ stW ad R τ))) (roQ (some (Value.int (iI (ownJ R J t))))) 0 0 nof := by
  have hB := hI.hB
  have hr0 := hI.r
  have hd0 := hI.d
  have hs0 := hI.s
  have hN := hI.hN
  have hss := hI.sl t ht
  have hw := hI.w
  refine roMet (cc := cX1_ownReason) (maxL := 3) (ret := (some .int)) (lv := [(0, Value.ref (aj 0)), (1, Value.ref (ad 0)), (2, Value.int (iI (t : Int)))]) (by decide) rfl (Nat.le_of_ble_eq_true rfl) rfl ?_
  intro p e s m below meth c hx hb hr hml hts hown hlocks hP hK ls hl
  have hJ := va_left hP
  have hT := va_right hP
  refine lv_aload_n hx hb dX1_ownReason_0 rfl (lv_at hl 1 rfl) ?_
  refine va_get (D := g) (ci := 6) (v := Value.ref (ad 10)) (C := RX6) (T := TX6) (N := 5) hx hb hts in_X1_ownReason_X6 hown hK.1 hT 0 (rfl) rfl 2 (by decide) (hts _ (List.mem_of_getElem? (i := 1) rfl) : (Cond.fieldLink RX1 42 "CordSeals$State" "seals" "LCordSeals$Seals;").before _ s = true) (fun _ h9 => h9) rfl dX1_ownReason_1 ?_
  refine va_get (D := g) (ci := 4) (v := Value.ref (ad 14)) (C := RX4) (T := TX4) (N := 7) hx hb hts in_X1_ownReason_X4 hown hK.1 hT 10 (rfl) rfl 4 (by decide) (hts _ (List.mem_of_getElem? (i := 2) rfl) : (Cond.fieldLink RX1 109 "CordSeals$Seals" "bubbles" "[I").before _ s = true) (fun _ h9 => h9) rfl dX1_ownReason_4 ?_
  refine lv_iload_n hx hb dX1_ownReason_7 rfl (lv_at hl 2 rfl) ?_
  refine zi_ald hx hb hK hT 14 (f := (R 14)) (rfl) (t) (rfl) (by omega) (by decide) dX1_ownReason_8 ?_
  have hb_1 := hB 14 t
  refine lv_aload_n hx hb dX1_ownReason_9 rfl (lv_at hl 1 rfl) ?_
  refine va_get (D := g) (ci := 6) (v := Value.ref (ad 20)) (C := RX6) (T := TX6) (N := 5) hx hb hts in_X1_ownReason_X6 hown hK.1 hT 0 (rfl) rfl 4 (by decide) (hts _ (List.mem_of_getElem? (i := 3) rfl) : (Cond.fieldLink RX1 112 "CordSeals$State" "settings" "[I").before _ s = true) (fun _ h9 => h9) rfl dX1_ownReason_10 ?_
  refine lv_aload_n hx hb dX1_ownReason_13 rfl (lv_at hl 1 rfl) ?_
  refine va_get (D := g) (ci := 6) (v := Value.ref (ad 10)) (C := RX6) (T := TX6) (N := 5) hx hb hts in_X1_ownReason_X6 hown hK.1 hT 0 (rfl) rfl 2 (by decide) (hts _ (List.mem_of_getElem? (i := 1) rfl) : (Cond.fieldLink RX1 42 "CordSeals$State" "seals" "LCordSeals$Seals;").before _ s = true) (fun _ h9 => h9) rfl dX1_ownReason_14 ?_
  refine va_get (D := g) (ci := 4) (v := Value.ref (ad 12)) (C := RX4) (T := TX4) (N := 7) hx hb hts in_X1_ownReason_X4 hown hK.1 hT 10 (rfl) rfl 2 (by decide) (hts _ (List.mem_of_getElem? (i := 4) rfl) : (Cond.fieldLink RX1 115 "CordSeals$Seals" "material" "[I").before _ s = true) (fun _ h9 => h9) rfl dX1_ownReason_17 ?_
  refine lv_iload_n hx hb dX1_ownReason_20 rfl (lv_at hl 2 rfl) ?_
  refine zi_ald hx hb hK hT 12 (f := (R 12)) (rfl) (t) (rfl) (by omega) (by decide) dX1_ownReason_21 ?_
  have hb_2 := hB 12 t
  have hset : -1 ≤ R 20 (R 12 t).toNat := (hB 20 _).1
  refine zi_ald hx hb hK hT 20 (f := (R 20)) (rfl) ((R 12 t).toNat) (by omega) (by omega) (by decide) dX1_ownReason_22 ?_
  have hb_3 := hB 20 ((R 12 t).toNat)
  refine zi_icmp_le (tgt := 28) hx hb ⟨by omega, by omega⟩ ⟨by omega, by omega⟩ dX1_ownReason_23 (by decide) (fun c_4 => ?_) (fun c_4 => ?_)
  · have _ := c_4
    refine lv_aload_n hx hb dX1_ownReason_28 rfl (lv_at hl 0 rfl) ?_
    refine va_get (D := g) (ci := 1) (v := Value.ref (aj 1)) (C := RX1) (T := TX1) (N := 6) hx hb hts in_X1_ownReason_X1 hown hK.1 hJ 0 (rfl) rfl 0 (by decide) (hts _ (List.mem_of_getElem? (i := 5) rfl) : (Cond.fieldLink RX1 11 "CordSeals$Judge" "ofSeals" "[LCordSeals$Years;").before _ s = true) (fun _ h9 => h9) rfl dX1_ownReason_29 ?_
    refine lv_iload_n hx hb dX1_ownReason_32 rfl (lv_at hl 2 rfl) ?_
    refine zq_ald hx hb hK hJ 1 3 (C := RX8) (f := (fun i => some (aj (10 + i)))) (rfl) rfl (t) (rfl) (by omega) (by decide) (rfl) dX1_ownReason_33 ?_
    refine va_getN (D := g) (ci := 8) (v := Value.int (iI (J 2 t))) (C := RX8) (T := TX8) (N := 3) hx hb hts in_X1_ownReason_X8 hown hK.1 hJ (6 + t) (juW_at aj J τ (by omega)) rfl 2 (by decide) (va_Nw.use rfl hK.2.1) (fun _ h9 => h9) rfl dX1_ownReason_34 ?_
    have hb_5 := hjb 2 t
    refine zi_if_ne (tgt := 42) hx hb ⟨by omega, by omega⟩ dX1_ownReason_37 (by decide) (fun c_6 => ?_) (fun c_6 => ?_)
    · have _ := c_6
      refine lv_aload_n hx hb dX1_ownReason_42 rfl (lv_at hl 0 rfl) ?_
      refine va_get (D := g) (ci := 1) (v := Value.ref (aj 4)) (C := RX1) (T := TX1) (N := 6) hx hb hts in_X1_ownReason_X1 hown hK.1 hJ 0 (rfl) rfl 3 (by decide) (hts _ (List.mem_of_getElem? (i := 6) rfl) : (Cond.fieldLink RX1 24 "CordSeals$Judge" "first" "[I").before _ s = true) (fun _ h9 => h9) rfl dX1_ownReason_43 ?_
      refine lv_iload_n hx hb dX1_ownReason_46 rfl (lv_at hl 2 rfl) ?_
      refine zi_ald hx hb hK hJ 4 (f := (J 4)) (rfl) (t) (rfl) (by omega) (by decide) dX1_ownReason_47 ?_
      have hb_7 := hjb 4 t
      refine lv_iconst (v := iI (-1)) hx hb dX1_ownReason_48 (by decide) ?_
      refine zi_icmp_ne (tgt := 56) hx hb ⟨by omega, by omega⟩ ⟨by decide, by decide⟩ dX1_ownReason_49 (by decide) (fun c_8 => ?_) (fun c_8 => ?_)
      · have _ := c_8
        refine lv_iconst (v := iI 0) hx hb dX1_ownReason_56 (by decide) ?_
        exact zo_iret hx hb hr hlocks (by rw [ownJ, if_neg (by omega), if_neg (by assumption)]; first | (rw [if_pos (by assumption)]) | (rw [if_neg (by assumption)])) dX1_ownReason_57
      · have _ := c_8
        refine lv_iconst (v := iI 3) hx hb dX1_ownReason_52 (by decide) ?_
        refine lv_goto (tgt := 57) hx hb dX1_ownReason_53 (by decide) ?_
        exact zo_iret hx hb hr hlocks (by rw [ownJ, if_neg (by omega), if_neg (by assumption)]; first | (rw [if_pos (by assumption)]) | (rw [if_neg (by assumption)])) dX1_ownReason_57
    · have _ := c_6
      refine lv_iconst (v := iI 2) hx hb dX1_ownReason_40 (by decide) ?_
      exact zo_iret hx hb hr hlocks (by rw [ownJ, if_neg (by omega), if_pos (by assumption)]) dX1_ownReason_41
  · have _ := c_4
    refine lv_iconst (v := iI 1) hx hb dX1_ownReason_26 (by decide) ?_
    exact zo_iret hx hb hr hlocks (by rw [ownJ, if_pos (by assumption)]) dX1_ownReason_27
