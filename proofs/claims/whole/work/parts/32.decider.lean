theorem sumZ_r {f : Nat → Int} {m : Int} (h : ∀ j, 0 ≤ f j ∧ f j ≤ m) : ∀ n : Nat, 0 ≤ sumZ f n ∧ sumZ f n ≤ n * m
  | 0 => by unfold sumZ; omega
  | n + 1 => by
    have h1 := sumZ_r h n
    have h2 := h n
    have e : ((n + 1 : Nat) : Int) * m = n * m + m := by push_cast; rw [Int.add_mul, Int.one_mul]
    unfold sumZ
    omega
theorem yCount_r {R : Nat → Nat → Int} (hB : HB R) (n : Nat) {lo hi : Int} (hl : -1 ≤ lo ∧ lo < 65536) (hh : -1 ≤ hi ∧ hi < 65536) (sp : Int) (k : Nat) : 0 ≤ yCount R n lo hi sp k ∧ yCount R n lo hi sp k ≤ k * 65537 := by
  refine sumZ_r (m := 65537) (fun j => ?_) k
  have h1 := kFirst_r R hB j
  have h2 := kLast_r R hB n j
  split
  · rename_i h
    unfold yOk at h
    rw [Bool.and_eq_true_iff] at h
    have h3 := of_decide_eq_true h.2
    unfold yFrom yTo at *
    omega
  · omega
theorem dcS_ok {R J : Nat → Nat → Int} (hI : SI R) (h : HB J) (hs : JSp J) (q : Int) : ∀ i : Nat, (HB (dcS R J q i).1 ∧ JSp (dcS R J q i).1) ∧ (-1 ≤ (dcS R J q i).2.1 ∧ (dcS R J q i).2.1 < i) ∧ -1 ≤ (dcS R J q i).2.2 ∧ (dcS R J q i).2.2 ≤ 720907
  | 0 => ⟨⟨h, hs⟩, by simp [dcS], by simp [dcS]⟩
  | i + 1 => by
    obtain ⟨⟨h1, h2⟩, h3, h4⟩ := dcS_ok hI h hs q i
    have g1 : HB (foJ (dcS R J q i).1 (pJ R (dcS R J q i).1 q i) (R 10 0).toNat) ∧ JSp (foJ (dcS R J q i).1 (pJ R (dcS R J q i).1 q i) (R 10 0).toNat) := ⟨HB_foJ h1 h2 (by have := hI.s; omega), foJ_s h1 h2 (by have := hI.s; omega)⟩
    have g2 := yCount_r hI.hB (R 1 0).toNat (g1.1 0 30) (g1.1 1 30) (foJ (dcS R J q i).1 (pJ R (dcS R J q i).1 q i) (R 10 0).toNat 2 30) ((R 1 0).toNat + 1)
    have g3 : (((R 1 0).toNat + 1 : Nat) : Int) * 65537 ≤ 720907 := by have := hI.r; omega
    rw [dcS]
    split
    · split
      · exact ⟨g1, ⟨by show -1 ≤ (i : Int); omega, by show (i : Int) < _; omega⟩, by show -1 ≤ yCount _ _ _ _ _ _; omega, Int.le_trans g2.2 g3⟩
      · exact ⟨g1, ⟨h3.1, by show (dcS R J q i).2.1 < _; omega⟩, h4⟩
    · exact ⟨⟨h1, h2⟩, ⟨h3.1, by omega⟩, h4⟩

theorem cd_X1_decider : cd yX1_decider 2 := by decide +kernel
theorem in_X1_decider_X1 : ∀ w ∈ wsX10, w ∈ wsX1_decider := by decide +kernel
theorem in_X1_decider_X4 : ∀ w ∈ wsX40, w ∈ wsX1_decider := by decide +kernel
theorem in_X1_decider_X6 : ∀ w ∈ wsX60, w ∈ wsX1_decider := by decide +kernel
set_option maxHeartbeats 1000000 in
set_option maxRecDepth 100000 in
theorem c_X1_decider (l : Launch) (g : va_G) (τ : Nat → ClassId) (ad aj : Nat → Nat) (R J : Nat → Nat → Int) (hI : SI R) (hjb : HB J) (hjs : JSp J) (q : Int) (rq : -2147483648 ≤ q ∧ q < 2147483648)  : Met l yX1_decider wsX1_decider { frames := 3, cells := 0, slots := 0, locals := 62 } (va_Pc [Value.ref (aj 0), Value.ref (ad 0), Value.int (iI q)] (rwW g τ (juW aj J τ ++ stW ad R τ))) (rwQ g (fun v w => v = some (Value.int (iI (dcS R J q (R 10 0).toNat).2.1)) ∧ w = juW aj (dcS R J q (R 10 0).toNat).1 τ ++ stW ad R τ) (inW (juW aj J τ ++ stW ad R τ))) 0 0 (inW (juW aj J τ ++ stW ad R τ)) := by
  have hB := hI.hB
  have hr0 := hI.r
  have hd0 := hI.d
  have hs0 := hI.s
  have hN := hI.hN
  refine rwMet (cc := cX1_decider) (maxL := 7) (ret := (some .int)) (lv := [(0, Value.ref (aj 0)), (1, Value.ref (ad 0)), (2, Value.int (iI q))]) (by decide) rfl (Nat.le_of_ble_eq_true rfl) rfl ?_
  intro p e s m below meth c hx hb hr hml hts hown hlocks A H hP hD hS hK ls hl
  have hJ := va_left hP
  have hT := va_right hP
  refine lv_iconst (v := iI (-1)) hx hb dX1_decider_0 (by decide) ?_
  refine lv_istore_n (lv' := [(3, Value.int (iI (-1))), (0, Value.ref (aj 0)), (1, Value.ref (ad 0)), (2, Value.int (iI q))]) hx hb dX1_decider_1 rfl hl (by decide) rfl (fun ls hl => ?_)
  refine lv_iconst (v := iI (-1)) hx hb dX1_decider_2 (by decide) ?_
  refine lv_istore (lv' := [(4, Value.int (iI (-1))), (3, Value.int (iI (-1))), (0, Value.ref (aj 0)), (1, Value.ref (ad 0)), (2, Value.int (iI q))]) hx hb dX1_decider_3 hl (by decide) rfl (fun ls hl => ?_)
  refine lv_iconst (v := iI 0) hx hb dX1_decider_5 (by decide) ?_
  refine lv_istore (lv' := [(5, Value.int (iI 0)), (4, Value.int (iI (-1))), (3, Value.int (iI (-1))), (0, Value.ref (aj 0)), (1, Value.ref (ad 0)), (2, Value.int (iI q))]) hx hb dX1_decider_6 hl (by decide) rfl (fun ls hl => ?_)
  have h0_1 : (dcS R J q 0).2.2 = (-1) := rfl
  have h0_2 : (dcS R J q 0).2.1 = (-1) := rfl
  have hP : va_P g vwCl (juW aj ((dcS R J q 0).1) τ ++ stW ad R τ) H := by first | exact hP | (exact hP)
  have hD : va_D A (juW aj ((dcS R J q 0).1) τ ++ stW ad R τ) := by first | exact hD | (exact hD)
  refine lp_upW (fun i => [(5, Value.int (iI (i : Int))), (4, Value.int (iI ((dcS R J q i).2.2))), (3, Value.int (iI ((dcS R J q i).2.1))), (0, Value.ref (aj 0)), (1, Value.ref (ad 0)), (2, Value.int (iI q))]) (fun i => juW aj ((dcS R J q i).1) τ ++ stW ad R τ) (fun i => True) ((R 10 0).toNat) (0) (by omega) hP hD hS (by first | trivial | (intro j hj; omega)) (lv_eq (lv_sub hl [0, 1, 2, 3, 4, 5] rfl) (by show [(5, Value.int (iI 0)), (4, Value.int (iI ((dcS R J q 0).2.2))), (3, Value.int (iI ((dcS R J q 0).2.1))), (0, Value.ref (aj 0)), (1, Value.ref (ad 0)), (2, Value.int (iI q))] = [(5, Value.int (iI 0)), (4, Value.int (iI (-1))), (3, Value.int (iI (-1))), (0, Value.ref (aj 0)), (1, Value.ref (ad 0)), (2, Value.int (iI q))]; rw [h0_1, h0_2])) (fun i h0_i hi_i hI_i ih_8 H locs hP hD hS ls hl => ?_)
  have hJ := va_left hP
  have hT := va_right hP
  have hok := dcS_ok hI hjb hjs q i
  have ho1 := HB_foJ hok.1.1 (p := pJ R (dcS R J q i).1 q i) (i := (R 10 0).toNat) hok.1.2 (by omega)
  have ho2 := foJ_s hok.1.1 (p := pJ R (dcS R J q i).1 q i) (i := (R 10 0).toNat) hok.1.2 (by omega)
  have hz0 := ho1 0 30
  have hz1 := ho1 1 30
  have hz2 := ho1 2 30
  have hz3 := ho2 30 (by omega)
  have hyc := yCount_r hB (R 1 0).toNat hz0 hz1 (foJ (dcS R J q i).1 (pJ R (dcS R J q i).1 q i) (R 10 0).toNat 2 30) ((R 1 0).toNat + 1)
  refine lv_iload hx hb dX1_decider_8 (lv_at hl 0 rfl) ?_
  refine lv_aload_n hx hb dX1_decider_10 rfl (lv_at hl 4 rfl) ?_
  refine va_get (D := g) (ci := 6) (v := Value.ref (ad 10)) (C := RX6) (T := TX6) (N := 5) hx hb hts in_X1_decider_X6 hown hK.1 hT 0 (rfl) rfl 2 (by decide) (hts _ (List.mem_of_getElem? (i := 1) rfl) : (Cond.fieldLink RX1 42 "CordSeals$State" "seals" "LCordSeals$Seals;").before _ s = true) (fun _ h9 => h9) rfl dX1_decider_11 ?_
  refine va_get (D := g) (ci := 4) (v := Value.int (iI (R 10 0))) (C := RX4) (T := TX4) (N := 7) hx hb hts in_X1_decider_X4 hown hK.1 hT 10 (rfl) rfl 0 (by decide) (hts _ (List.mem_of_getElem? (i := 2) rfl) : (Cond.fieldLink RX1 48 "CordSeals$Seals" "count" "I").before _ s = true) (fun _ h9 => h9) rfl dX1_decider_14 ?_
  have hb_3 := hB 10 0
  refine zi_icmp_ge (tgt := 72) hx hb ⟨by omega, by omega⟩ ⟨by omega, by omega⟩ dX1_decider_17 (by decide) (fun c_4 => ?_) (fun c_4 => ?_)
  · have _ := c_4
    have h0_i : i = (R 10 0).toNat := by omega
    refine lv_iload_n hx hb dX1_decider_72 rfl (lv_at hl 2 rfl) ?_
    exact rw_iret hx hb hr hlocks hP hS (⟨by rw [h0_i], by rw [h0_i]⟩) dX1_decider_73
  · have _ := c_4
    have hl_i : i < (R 10 0).toNat := by omega
    refine lv_aload_n hx hb dX1_decider_20 rfl (lv_at hl 3 rfl) ?_
    refine lv_aload_n hx hb dX1_decider_21 rfl (lv_at hl 4 rfl) ?_
    refine lv_iload hx hb dX1_decider_22 (lv_at hl 0 rfl) ?_
    refine lv_iload_n hx hb dX1_decider_24 rfl (lv_at hl 5 rfl) ?_
    refine ro_V (As := [Value.ref (ad 0), Value.int (iI (i : Int)), Value.int (iI q)]) (rest := []) (v := some (Value.int (iI (zB (jD R ((dcS R J q i).1) q i))))) ⟨hx, hb, hml, hown, hts⟩ (c_X1_dates l g τ ad aj R ((dcS R J q i).1) hI hok.1.1 i (by omega) q ⟨by omega, by omega⟩) gX1_decider_X1_dates cd_X1_dates rfl rfl ⟨rfl, rfl⟩ ⟨Nat.le_of_ble_eq_true rfl, Nat.le_of_ble_eq_true rfl⟩ hK hP 0 rfl rfl rfl rfl hl rfl (Nat.le_of_ble_eq_true rfl) dX1_decider_25 ⟨Nat.le_of_ble_eq_true rfl, Nat.le_of_ble_eq_true rfl⟩ ?_
    refine tl_some ?_
    refine zb_if_eq (tgt := 66) hx hb dX1_decider_28 (by decide) (fun c_5 => ?_) (fun c_5 => ?_)
    · have _ := c_5
      have hd : dcS R J q (i + 1) = dcS R J q i := by rw [dcS, if_neg (by rw [c_5]; decide)]
      refine zi_inc (v := ((i + 1 : Nat) : Int)) (lv' := [(5, Value.int (iI ((i + 1 : Nat) : Int))), (4, Value.int (iI ((dcS R J q i).2.2))), (3, Value.int (iI ((dcS R J q i).2.1))), (0, Value.ref (aj 0)), (1, Value.ref (ad 0)), (2, Value.int (iI q))]) hx hb dX1_decider_66 hl (k := 0) rfl (by omega) (by decide) rfl (fun ls hl => ?_)
      refine lv_goto (tgt := 8) hx hb dX1_decider_69 (by decide) ?_
      have hb_6 : (((i + 1) : Nat) : Int) = ((i + 1 : Nat) : Int) := by first | rfl | omega | (simp [c_4, c_5]; done)
      have hb_7 : (dcS R J q (i + 1)).2.2 = (dcS R J q i).2.2 := by rw [hd]
      have hb_8 : (dcS R J q (i + 1)).2.1 = (dcS R J q i).2.1 := by rw [hd]
      have hw_9 : juW aj ((dcS R J q i).1) τ ++ stW ad R τ = juW aj ((dcS R J q (i + 1)).1) τ ++ stW ad R τ := by rw [hd]
      rw [hw_9] at hP hD
      exact ih_8 hl_i (trivial) _ _ _ hP hD hS (lv_eq (lv_sub hl [0, 1, 2, 3, 4, 5] rfl) (by show [(5, Value.int (iI (((i + 1) : Nat) : Int))), (4, Value.int (iI ((dcS R J q (i + 1)).2.2))), (3, Value.int (iI ((dcS R J q (i + 1)).2.1))), (0, Value.ref (aj 0)), (1, Value.ref (ad 0)), (2, Value.int (iI q))] = [(5, Value.int (iI ((i + 1 : Nat) : Int))), (4, Value.int (iI ((dcS R J q i).2.2))), (3, Value.int (iI ((dcS R J q i).2.1))), (0, Value.ref (aj 0)), (1, Value.ref (ad 0)), (2, Value.int (iI q))]; rw [hb_6, hb_7, hb_8]))
    · have _ := c_5
      have hj : jD R (dcS R J q i).1 q i = true := c_5
      refine lv_aload_n hx hb dX1_decider_31 rfl (lv_at hl 3 rfl) ?_
      refine lv_aload_n hx hb dX1_decider_32 rfl (lv_at hl 4 rfl) ?_
      refine lv_iload_n hx hb dX1_decider_33 rfl (lv_at hl 5 rfl) ?_
      refine lv_iload hx hb dX1_decider_34 (lv_at hl 0 rfl) ?_
      refine rw_V (As := [Value.ref (ad 0), Value.int (iI q), Value.int (iI (i : Int))]) (rest := []) ⟨hx, hb, hml, hown, hts⟩ (c_X1_findCommon l g τ ad aj R ((dcS R J q i).1) hI hok.1.1 hok.1.2 q ⟨by omega, by omega⟩ (i : Int) ⟨by omega, by omega⟩) gX1_decider_X1_findCommon cd_X1_findCommon rfl rfl ⟨rfl, rfl⟩ ⟨Nat.le_of_ble_eq_true rfl, Nat.le_of_ble_eq_true rfl⟩ hK hP hD hS [0, 1, 2, 3, 4, 5, 6, 7, 8, 9, 10, 11, 12, 13, 14, 15, 16, 17, 18, 19, 20, 21, 22, 23, 24, 25, 26, 27, 28, 29, 30, 31, 32, 33, 34, 35, 36, 37, 38, 39, 40, 41, 42, 43, 44, 45, 46, 47, 48, 49, 50, 51, 52, 53, 54, 55, 56, 57] (full_C _ _ _ _ _) ((by decide)) 0 rfl rfl rfl rfl hl rfl (Nat.le_of_ble_eq_true rfl) dX1_decider_36 ⟨Nat.le_of_ble_eq_true rfl, Nat.le_of_ble_eq_true rfl⟩ (fun v w h => by rw [h.2]; exact f_ju _ _ _ _ _ _) (fun v w1 H locs hZ hP hD hS => ?_)
      obtain ⟨rfl, rfl⟩ := hZ
      rw [full_r] at hP hD
      have hP : va_P g vwCl (juW aj (foJ (dcS R J q i).1 (pJ R (dcS R J q i).1 q i) (R 10 0).toNat) τ ++ stW ad R τ) H := hP
      have hD : va_D A (juW aj (foJ (dcS R J q i).1 (pJ R (dcS R J q i).1 q i) (R 10 0).toNat) τ ++ stW ad R τ) := hD
      have hJ := va_left hP
      have hT := va_right hP
      refine tl_none ?_
      refine lv_aload_n hx hb dX1_decider_39 rfl (lv_at hl 3 rfl) ?_
      refine va_get (D := g) (ci := 1) (v := Value.ref (aj (10 + 30))) (C := RX1) (T := TX1) (N := 6) hx hb hts in_X1_decider_X1 hown hK.1 hJ 0 (rfl) rfl 5 (by decide) (hts _ (List.mem_of_getElem? (i := 3) rfl) : (Cond.fieldLink RX1 31 "CordSeals$Judge" "common" "LCordSeals$Years;").before _ s = true) (fun _ h9 => h9) rfl dX1_decider_40 ?_
      refine lv_aload_n hx hb dX1_decider_43 rfl (lv_at hl 4 rfl) ?_
      refine va_get (D := g) (ci := 6) (v := Value.ref (ad 1)) (C := RX6) (T := TX6) (N := 5) hx hb hts in_X1_decider_X6 hown hK.1 hT 0 (rfl) rfl 0 (by decide) (hts _ (List.mem_of_getElem? (i := 4) rfl) : (Cond.fieldLink RX1 73 "CordSeals$State" "reigns" "LCordSeals$Reigns;").before _ s = true) (fun _ h9 => h9) rfl dX1_decider_44 ?_
      refine ro_V (As := [Value.ref (ad 1)]) (rest := []) (v := some (Value.int (iI (yCount R (R 1 0).toNat ((foJ (dcS R J q i).1 (pJ R (dcS R J q i).1 q i) (R 10 0).toNat) 0 30) ((foJ (dcS R J q i).1 (pJ R (dcS R J q i).1 q i) (R 10 0).toNat) 1 30) ((foJ (dcS R J q i).1 (pJ R (dcS R J q i).1 q i) (R 10 0).toNat) 2 30) ((R 1 0).toNat + 1))))) ⟨hx, hb, hml, hown, hts⟩ (c_X8_count l g τ (aj (10 + 30)) ((foJ (dcS R J q i).1 (pJ R (dcS R J q i).1 q i) (R 10 0).toNat) 0 30) ((foJ (dcS R J q i).1 (pJ R (dcS R J q i).1 q i) (R 10 0).toNat) 1 30) ((foJ (dcS R J q i).1 (pJ R (dcS R J q i).1 q i) (R 10 0).toNat) 2 30) ⟨by omega, by omega⟩ ⟨by omega, by omega⟩ ⟨by omega, by omega⟩ ad R hB (R 1 0).toNat (by omega) (by omega)) gX1_decider_X8_count cd_X8_count rfl rfl ⟨rfl, rfl⟩ ⟨Nat.le_of_ble_eq_true rfl, Nat.le_of_ble_eq_true rfl⟩ hK ((y1 hJ (by omega)).app (hT.sub [1, 2, 3] rfl)) 0 rfl rfl rfl rfl hl rfl (Nat.le_of_ble_eq_true rfl) dX1_decider_47 ⟨Nat.le_of_ble_eq_true rfl, Nat.le_of_ble_eq_true rfl⟩ ?_
      refine tl_some ?_
      refine lv_istore (lv' := [(6, Value.int (iI (yCount R (R 1 0).toNat ((foJ (dcS R J q i).1 (pJ R (dcS R J q i).1 q i) (R 10 0).toNat) 0 30) ((foJ (dcS R J q i).1 (pJ R (dcS R J q i).1 q i) (R 10 0).toNat) 1 30) ((foJ (dcS R J q i).1 (pJ R (dcS R J q i).1 q i) (R 10 0).toNat) 2 30) ((R 1 0).toNat + 1)))), (5, Value.int (iI (i : Int))), (4, Value.int (iI ((dcS R J q i).2.2))), (3, Value.int (iI ((dcS R J q i).2.1))), (0, Value.ref (aj 0)), (1, Value.ref (ad 0)), (2, Value.int (iI q))]) hx hb dX1_decider_50 hl (by decide) rfl (fun ls hl => ?_)
      refine lv_iload hx hb dX1_decider_52 (lv_at hl 0 rfl) ?_
      refine lv_iload hx hb dX1_decider_54 (lv_at hl 2 rfl) ?_
      refine zi_icmp_le (tgt := 66) hx hb ⟨by omega, by omega⟩ ⟨by omega, by omega⟩ dX1_decider_56 (by decide) (fun c_10 => ?_) (fun c_10 => ?_)
      · have _ := c_10
        have hd : dcS R J q (i + 1) = (foJ (dcS R J q i).1 (pJ R (dcS R J q i).1 q i) (R 10 0).toNat, (dcS R J q i).2) := by rw [dcS, if_pos hj, if_neg (by omega)]
        refine zi_inc (v := ((i + 1 : Nat) : Int)) (lv' := [(5, Value.int (iI ((i + 1 : Nat) : Int))), (6, Value.int (iI (yCount R (R 1 0).toNat ((foJ (dcS R J q i).1 (pJ R (dcS R J q i).1 q i) (R 10 0).toNat) 0 30) ((foJ (dcS R J q i).1 (pJ R (dcS R J q i).1 q i) (R 10 0).toNat) 1 30) ((foJ (dcS R J q i).1 (pJ R (dcS R J q i).1 q i) (R 10 0).toNat) 2 30) ((R 1 0).toNat + 1)))), (4, Value.int (iI ((dcS R J q i).2.2))), (3, Value.int (iI ((dcS R J q i).2.1))), (0, Value.ref (aj 0)), (1, Value.ref (ad 0)), (2, Value.int (iI q))]) hx hb dX1_decider_66 hl (k := 1) rfl (by omega) (by decide) rfl (fun ls hl => ?_)
        refine lv_goto (tgt := 8) hx hb dX1_decider_69 (by decide) ?_
        have hb_11 : (((i + 1) : Nat) : Int) = ((i + 1 : Nat) : Int) := by first | rfl | omega | (simp [c_4, c_5, c_10]; done)
        have hb_12 : (dcS R J q (i + 1)).2.2 = (dcS R J q i).2.2 := by rw [hd]
        have hb_13 : (dcS R J q (i + 1)).2.1 = (dcS R J q i).2.1 := by rw [hd]
        have hw_14 : juW aj (foJ (dcS R J q i).1 (pJ R (dcS R J q i).1 q i) (R 10 0).toNat) τ ++ stW ad R τ = juW aj ((dcS R J q (i + 1)).1) τ ++ stW ad R τ := by rw [hd]
        rw [hw_14] at hP hD
        exact ih_8 hl_i (trivial) _ _ _ hP hD hS (lv_eq (lv_sub hl [0, 2, 3, 4, 5, 6] rfl) (by show [(5, Value.int (iI (((i + 1) : Nat) : Int))), (4, Value.int (iI ((dcS R J q (i + 1)).2.2))), (3, Value.int (iI ((dcS R J q (i + 1)).2.1))), (0, Value.ref (aj 0)), (1, Value.ref (ad 0)), (2, Value.int (iI q))] = [(5, Value.int (iI ((i + 1 : Nat) : Int))), (4, Value.int (iI ((dcS R J q i).2.2))), (3, Value.int (iI ((dcS R J q i).2.1))), (0, Value.ref (aj 0)), (1, Value.ref (ad 0)), (2, Value.int (iI q))]; rw [hb_11, hb_12, hb_13]))
      · have _ := c_10
        have hd : dcS R J q (i + 1) = (foJ (dcS R J q i).1 (pJ R (dcS R J q i).1 q i) (R 10 0).toNat, (i : Int), yCount R (R 1 0).toNat (foJ (dcS R J q i).1 (pJ R (dcS R J q i).1 q i) (R 10 0).toNat 0 30) (foJ (dcS R J q i).1 (pJ R (dcS R J q i).1 q i) (R 10 0).toNat 1 30) (foJ (dcS R J q i).1 (pJ R (dcS R J q i).1 q i) (R 10 0).toNat 2 30) ((R 1 0).toNat + 1)) := by rw [dcS, if_pos hj, if_pos (by omega)]
        refine lv_iload hx hb dX1_decider_59 (lv_at hl 0 rfl) ?_
        refine lv_istore (lv' := [(4, Value.int (iI (yCount R (R 1 0).toNat ((foJ (dcS R J q i).1 (pJ R (dcS R J q i).1 q i) (R 10 0).toNat) 0 30) ((foJ (dcS R J q i).1 (pJ R (dcS R J q i).1 q i) (R 10 0).toNat) 1 30) ((foJ (dcS R J q i).1 (pJ R (dcS R J q i).1 q i) (R 10 0).toNat) 2 30) ((R 1 0).toNat + 1)))), (6, Value.int (iI (yCount R (R 1 0).toNat ((foJ (dcS R J q i).1 (pJ R (dcS R J q i).1 q i) (R 10 0).toNat) 0 30) ((foJ (dcS R J q i).1 (pJ R (dcS R J q i).1 q i) (R 10 0).toNat) 1 30) ((foJ (dcS R J q i).1 (pJ R (dcS R J q i).1 q i) (R 10 0).toNat) 2 30) ((R 1 0).toNat + 1)))), (5, Value.int (iI (i : Int))), (3, Value.int (iI ((dcS R J q i).2.1))), (0, Value.ref (aj 0)), (1, Value.ref (ad 0)), (2, Value.int (iI q))]) hx hb dX1_decider_61 hl (by decide) rfl (fun ls hl => ?_)
        refine lv_iload hx hb dX1_decider_63 (lv_at hl 2 rfl) ?_
        refine lv_istore_n (lv' := [(3, Value.int (iI (i : Int))), (4, Value.int (iI (yCount R (R 1 0).toNat ((foJ (dcS R J q i).1 (pJ R (dcS R J q i).1 q i) (R 10 0).toNat) 0 30) ((foJ (dcS R J q i).1 (pJ R (dcS R J q i).1 q i) (R 10 0).toNat) 1 30) ((foJ (dcS R J q i).1 (pJ R (dcS R J q i).1 q i) (R 10 0).toNat) 2 30) ((R 1 0).toNat + 1)))), (6, Value.int (iI (yCount R (R 1 0).toNat ((foJ (dcS R J q i).1 (pJ R (dcS R J q i).1 q i) (R 10 0).toNat) 0 30) ((foJ (dcS R J q i).1 (pJ R (dcS R J q i).1 q i) (R 10 0).toNat) 1 30) ((foJ (dcS R J q i).1 (pJ R (dcS R J q i).1 q i) (R 10 0).toNat) 2 30) ((R 1 0).toNat + 1)))), (5, Value.int (iI (i : Int))), (0, Value.ref (aj 0)), (1, Value.ref (ad 0)), (2, Value.int (iI q))]) hx hb dX1_decider_65 rfl hl (by decide) rfl (fun ls hl => ?_)
        refine zi_inc (v := ((i + 1 : Nat) : Int)) (lv' := [(5, Value.int (iI ((i + 1 : Nat) : Int))), (3, Value.int (iI (i : Int))), (4, Value.int (iI (yCount R (R 1 0).toNat ((foJ (dcS R J q i).1 (pJ R (dcS R J q i).1 q i) (R 10 0).toNat) 0 30) ((foJ (dcS R J q i).1 (pJ R (dcS R J q i).1 q i) (R 10 0).toNat) 1 30) ((foJ (dcS R J q i).1 (pJ R (dcS R J q i).1 q i) (R 10 0).toNat) 2 30) ((R 1 0).toNat + 1)))), (6, Value.int (iI (yCount R (R 1 0).toNat ((foJ (dcS R J q i).1 (pJ R (dcS R J q i).1 q i) (R 10 0).toNat) 0 30) ((foJ (dcS R J q i).1 (pJ R (dcS R J q i).1 q i) (R 10 0).toNat) 1 30) ((foJ (dcS R J q i).1 (pJ R (dcS R J q i).1 q i) (R 10 0).toNat) 2 30) ((R 1 0).toNat + 1)))), (0, Value.ref (aj 0)), (1, Value.ref (ad 0)), (2, Value.int (iI q))]) hx hb dX1_decider_66 hl (k := 3) rfl (by omega) (by decide) rfl (fun ls hl => ?_)
        refine lv_goto (tgt := 8) hx hb dX1_decider_69 (by decide) ?_
        have hb_15 : (((i + 1) : Nat) : Int) = ((i + 1 : Nat) : Int) := by first | rfl | omega | (simp [c_4, c_5, c_10]; done)
        have hb_16 : (dcS R J q (i + 1)).2.2 = yCount R (R 1 0).toNat ((foJ (dcS R J q i).1 (pJ R (dcS R J q i).1 q i) (R 10 0).toNat) 0 30) ((foJ (dcS R J q i).1 (pJ R (dcS R J q i).1 q i) (R 10 0).toNat) 1 30) ((foJ (dcS R J q i).1 (pJ R (dcS R J q i).1 q i) (R 10 0).toNat) 2 30) ((R 1 0).toNat + 1) := by rw [hd]
        have hb_17 : (dcS R J q (i + 1)).2.1 = (i : Int) := by rw [hd]
        have hw_18 : juW aj (foJ (dcS R J q i).1 (pJ R (dcS R J q i).1 q i) (R 10 0).toNat) τ ++ stW ad R τ = juW aj ((dcS R J q (i + 1)).1) τ ++ stW ad R τ := by rw [hd]
        rw [hw_18] at hP hD
        exact ih_8 hl_i (trivial) _ _ _ hP hD hS (lv_eq (lv_sub hl [0, 2, 1, 4, 5, 6] rfl) (by show [(5, Value.int (iI (((i + 1) : Nat) : Int))), (4, Value.int (iI ((dcS R J q (i + 1)).2.2))), (3, Value.int (iI ((dcS R J q (i + 1)).2.1))), (0, Value.ref (aj 0)), (1, Value.ref (ad 0)), (2, Value.int (iI q))] = [(5, Value.int (iI ((i + 1 : Nat) : Int))), (4, Value.int (iI (yCount R (R 1 0).toNat ((foJ (dcS R J q i).1 (pJ R (dcS R J q i).1 q i) (R 10 0).toNat) 0 30) ((foJ (dcS R J q i).1 (pJ R (dcS R J q i).1 q i) (R 10 0).toNat) 1 30) ((foJ (dcS R J q i).1 (pJ R (dcS R J q i).1 q i) (R 10 0).toNat) 2 30) ((R 1 0).toNat + 1)))), (3, Value.int (iI (i : Int))), (0, Value.ref (aj 0)), (1, Value.ref (ad 0)), (2, Value.int (iI q))]; rw [hb_15, hb_16, hb_17]))
