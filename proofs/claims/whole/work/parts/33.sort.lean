theorem c_sh {aj ad : Nat → Nat} {J R : Nat → Nat → Int} {τ : Nat → ClassId} : [54, 55, 56].map (fun i => (juW aj J τ ++ stW ad R τ)[i]?) = (shW ad R τ).map some := by
  have e : ∀ k, 37 ≤ k → (juW aj J τ ++ stW ad R τ)[k]? = (stW ad R τ)[k - 37]? := fun k hk => by
    rw [List.getElem?_append_right (by rw [juW_len]; exact hk), juW_len]
  show [(juW aj J τ ++ stW ad R τ)[54]?, (juW aj J τ ++ stW ad R τ)[55]?, (juW aj J τ ++ stW ad R τ)[56]?] = _
  rw [e 54 (by decide), e 55 (by decide), e 56 (by decide)]
  rfl
theorem b_jsh {aj ad : Nat → Nat} {J R RR : Nat → Nat → Int} {τ : Nat → ClassId} : va_repl (juW aj J τ ++ stW ad R τ) ([54, 55, 56].zip (shW ad RR τ)) = juW aj J τ ++ stW ad (u2 (u2 R 18 (RR 18)) 19 (RR 19)) τ := by
  have e : ∀ (X : va_W) (k : Nat) (q : Nat × va_E), 37 ≤ k → (juW aj J τ ++ X).set k q = juW aj J τ ++ X.set (k - 37) q := fun X k q hk => by
    rw [List.set_append, if_neg (by rw [juW_len]; omega), juW_len]
  show (((juW aj J τ ++ stW ad R τ).set 54 _).set 55 _).set 56 _ = _
  rw [e _ 54 _ (by decide), e _ 55 _ (by decide), e _ 56 _ (by decide)]
  rfl
theorem pu_eq (R : Nat → Nat → Int) (f : Nat → Int) : u2 (u2 R 18 (u2 R 19 f 18)) 19 (u2 R 19 f 19) = u2 R 19 f := by
  funext j
  by_cases h1 : j = 19
  · subst h1; rfl
  · by_cases h2 : j = 18
    · subst h2; rfl
    · simp only [u2, if_neg h1, if_neg h2]
def skI (R J : Nat → Nat → Int) (h k : Nat) : Nat := fst (fun i => !decide (rkJ J (gAt R h k) < rkJ J (gAt R h (k - 1 - i)))) k
def skF (R J : Nat → Nat → Int) (h k : Nat) : Nat → Int := updZ (shr (R 19) (h * 6 + (k - skI R J h k)) (h * 6 + k)) (h * 6 + (k - skI R J h k)) (R 19 (h * 6 + k))
theorem rkJ_r {J : Nat → Nat → Int} (h : HB J) (s : Nat) : -1 ≤ rkJ J s ∧ rkJ J s < 65536 := by
  have := h 4 s
  unfold rkJ
  split <;> omega
theorem shr_lo {f : Nat → Int} {a b j : Nat} (h : j ≤ a) : shr f a b j = f j := by
  unfold shr
  rw [if_neg (by omega)]

set_option maxHeartbeats 1000000 in
set_option maxRecDepth 100000 in
theorem c_X1_rankOf2 (l : Launch) (g : va_G) (τ : Nat → ClassId) (ad aj : Nat → Nat) (R J : Nat → Nat → Int) (hjb : HB J) (t : Nat) (ht : t < 24)  : Met l yX1_rankOf wsX1_rankOf { frames := 0, cells := 0, slots := 0, locals := 0 } (va_Pc [Value.ref (aj 0), Value.int (iI (t : Int))] (roW g τ (juW aj J τ ++ stW ad R τ))) (roQ (some (Value.int (iI (rkJ J t))))) 0 0 nof := by
  refine roMet (cc := cX1_rankOf) (maxL := 2) (ret := (some .int)) (lv := [(0, Value.ref (aj 0)), (1, Value.int (iI (t : Int)))]) (by decide) rfl (Nat.le_of_ble_eq_true rfl) rfl ?_
  intro p e s m below meth c hx hb hr hml hts hown hlocks hP hK ls hl
  have hJ := va_left hP
  have hT := va_right hP
  refine lv_aload_n hx hb dX1_rankOf_0 rfl (lv_at hl 0 rfl) ?_
  refine va_get (D := g) (ci := 1) (v := Value.ref (aj 3)) (C := RX1) (T := TX1) (N := 6) hx hb hts in_X1_rankOf_X1 hown hK.1 hJ 0 (rfl) rfl 2 (by decide) (hts _ (List.mem_of_getElem? (i := 1) rfl) : (Cond.fieldLink RX1 20 "CordSeals$Judge" "reason" "[I").before _ s = true) (fun _ h9 => h9) rfl dX1_rankOf_1 ?_
  refine lv_iload_n hx hb dX1_rankOf_4 rfl (lv_at hl 1 rfl) ?_
  refine zi_ald hx hb hK hJ 3 (f := (J 3)) (rfl) (t) (rfl) (by omega) (by decide) dX1_rankOf_5 ?_
  have hb_1 := hjb 3 t
  refine zi_if_ne (tgt := 18) hx hb ⟨by omega, by omega⟩ dX1_rankOf_6 (by decide) (fun c_2 => ?_) (fun c_2 => ?_)
  · have _ := c_2
    refine lv_sipush (v := iI 2000) hx hb dX1_rankOf_18 (by decide) ?_
    exact zo_iret hx hb hr hlocks (by unfold rkJ; first | (rw [if_pos (by assumption)]) | (rw [if_neg (by assumption)])) dX1_rankOf_21
  · have _ := c_2
    refine lv_aload_n hx hb dX1_rankOf_9 rfl (lv_at hl 0 rfl) ?_
    refine va_get (D := g) (ci := 1) (v := Value.ref (aj 4)) (C := RX1) (T := TX1) (N := 6) hx hb hts in_X1_rankOf_X1 hown hK.1 hJ 0 (rfl) rfl 3 (by decide) (hts _ (List.mem_of_getElem? (i := 2) rfl) : (Cond.fieldLink RX1 24 "CordSeals$Judge" "first" "[I").before _ s = true) (fun _ h9 => h9) rfl dX1_rankOf_10 ?_
    refine lv_iload_n hx hb dX1_rankOf_13 rfl (lv_at hl 1 rfl) ?_
    refine zi_ald hx hb hK hJ 4 (f := (J 4)) (rfl) (t) (rfl) (by omega) (by decide) dX1_rankOf_14 ?_
    have hb_3 := hjb 4 t
    refine lv_goto (tgt := 21) hx hb dX1_rankOf_15 (by decide) ?_
    exact zo_iret hx hb hr hlocks (by unfold rkJ; first | (rw [if_pos (by assumption)]) | (rw [if_neg (by assumption)])) dX1_rankOf_21

theorem cd_X1_sinkIn : cd yX1_sinkIn 3 := by decide +kernel
theorem in_X1_sinkIn_X6 : ∀ w ∈ wsX60, w ∈ wsX1_sinkIn := by decide +kernel
set_option maxHeartbeats 1000000 in
set_option maxRecDepth 100000 in
theorem c_X1_sinkIn (l : Launch) (g : va_G) (τ : Nat → ClassId) (ad aj : Nat → Nat) (R J : Nat → Nat → Int) (hB : HB R) (hjb : HB J) (h k : Nat) (hh : h < 6) (hk : k < 6) (hrow : ∀ j, j ≤ k → 0 ≤ R 19 (h * 6 + j) ∧ R 19 (h * 6 + j) < 24)  : Met l yX1_sinkIn wsX1_sinkIn { frames := 1, cells := 0, slots := 0, locals := 23 } (va_Pc [Value.ref (aj 0), Value.ref (ad 0), Value.int (iI (h : Int)), Value.int (iI (k : Int))] (rwW g τ (juW aj J τ ++ stW ad R τ))) (rwQ g (fun v w => v = none ∧ w = juW aj J τ ++ stW ad (u2 R 19 (skF R J h k)) τ) (inW (juW aj J τ ++ stW ad R τ))) 0 0 (inW (juW aj J τ ++ stW ad R τ)) := by
  have hr0 := hrow k (Nat.le_refl k)
  have hga : gAt R h k = (R 19 (h * 6 + k)).toNat := rfl
  refine rwMet (cc := cX1_sinkIn) (maxL := 6) (ret := none) (lv := [(0, Value.ref (aj 0)), (1, Value.ref (ad 0)), (2, Value.int (iI (h : Int))), (3, Value.int (iI (k : Int)))]) (by decide) rfl (Nat.le_of_ble_eq_true rfl) rfl ?_
  intro p e s m below meth c hx hb hr hml hts hown hlocks A H hP hD hS hK ls hl
  have hJ := va_left hP
  have hT := va_right hP
  refine lv_aload_n hx hb dX1_sinkIn_0 rfl (lv_at hl 1 rfl) ?_
  refine va_get (D := g) (ci := 6) (v := Value.ref (ad 17)) (C := RX6) (T := TX6) (N := 5) hx hb hts in_X1_sinkIn_X6 hown hK.1 hT 0 (rfl) rfl 3 (by decide) (hts _ (List.mem_of_getElem? (i := 1) rfl) : (Cond.fieldLink RX1 154 "CordSeals$State" "shelves" "LCordSeals$Shelves;").before _ s = true) (fun _ h9 => h9) rfl dX1_sinkIn_1 ?_
  refine lv_iload_n hx hb dX1_sinkIn_4 rfl (lv_at hl 2 rfl) ?_
  refine lv_iload_n hx hb dX1_sinkIn_5 rfl (lv_at hl 3 rfl) ?_
  refine ro_V (As := [Value.int (iI (h : Int)), Value.int (iI (k : Int))]) (rest := []) (v := some (Value.int (iI (R 19 (h * 6 + k))))) ⟨hx, hb, hml, hown, hts⟩ (c_X5_at l g τ ad R h k (by omega) (by omega)) gX1_sinkIn_X5_at cd_X5_at rfl rfl ⟨rfl, rfl⟩ ⟨Nat.le_of_ble_eq_true rfl, Nat.le_of_ble_eq_true rfl⟩ hK (hT.sub [17, 18, 19] rfl) 0 rfl rfl rfl rfl hl rfl (Nat.le_of_ble_eq_true rfl) dX1_sinkIn_6 ⟨Nat.le_of_ble_eq_true rfl, Nat.le_of_ble_eq_true rfl⟩ ?_
  refine tl_some ?_
  have hb_1 := hB 19 (h * 6 + k)
  refine lv_istore (lv' := [(4, Value.int (iI (R 19 (h * 6 + k)))), (0, Value.ref (aj 0)), (1, Value.ref (ad 0)), (2, Value.int (iI (h : Int))), (3, Value.int (iI (k : Int)))]) hx hb dX1_sinkIn_9 hl (by decide) rfl (fun ls hl => ?_)
  refine lv_iload_n hx hb dX1_sinkIn_11 rfl (lv_at hl 4 rfl) ?_
  refine lv_istore (lv' := [(5, Value.int (iI (k : Int))), (4, Value.int (iI (R 19 (h * 6 + k)))), (0, Value.ref (aj 0)), (1, Value.ref (ad 0)), (2, Value.int (iI (h : Int))), (3, Value.int (iI (k : Int)))]) hx hb dX1_sinkIn_12 hl (by decide) rfl (fun ls hl => ?_)
  have h0_2 : ((k - 0 : Nat) : Int) = (k : Int) := by omega
  have hP : va_P g vwCl (juW aj J τ ++ stW ad (u2 R 19 (shr (R 19) (h * 6 + (k - 0)) (h * 6 + k))) τ) H := by first | exact hP | (rw [show juW aj J τ ++ stW ad (u2 R 19 (shr (R 19) (h * 6 + (k - 0)) (h * 6 + k))) τ = juW aj J τ ++ stW ad R τ from by rw [Nat.sub_zero, shr_0, u2_id]]; exact hP)
  have hD : va_D A (juW aj J τ ++ stW ad (u2 R 19 (shr (R 19) (h * 6 + (k - 0)) (h * 6 + k))) τ) := by first | exact hD | (rw [show juW aj J τ ++ stW ad (u2 R 19 (shr (R 19) (h * 6 + (k - 0)) (h * 6 + k))) τ = juW aj J τ ++ stW ad R τ from by rw [Nat.sub_zero, shr_0, u2_id]]; exact hD)
  refine lp_upW (fun i => [(5, Value.int (iI ((k - i : Nat) : Int))), (4, Value.int (iI (R 19 (h * 6 + k)))), (0, Value.ref (aj 0)), (1, Value.ref (ad 0)), (2, Value.int (iI (h : Int))), (3, Value.int (iI (k : Int)))]) (fun i => juW aj J τ ++ stW ad (u2 R 19 (shr (R 19) (h * 6 + (k - i)) (h * 6 + k))) τ) (fun i => ∀ j, j < i → (!decide (rkJ J (gAt R h k) < rkJ J (gAt R h (k - 1 - j)))) = false) (k) (0) (by omega) hP hD hS (by first | trivial | (intro j hj; omega)) (lv_eq (lv_sub hl [0, 1, 2, 3, 4, 5] rfl) (by show [(5, Value.int (iI ((k - 0 : Nat) : Int))), (4, Value.int (iI (R 19 (h * 6 + k)))), (0, Value.ref (aj 0)), (1, Value.ref (ad 0)), (2, Value.int (iI (h : Int))), (3, Value.int (iI (k : Int)))] = [(5, Value.int (iI (k : Int))), (4, Value.int (iI (R 19 (h * 6 + k)))), (0, Value.ref (aj 0)), (1, Value.ref (ad 0)), (2, Value.int (iI (h : Int))), (3, Value.int (iI (k : Int)))]; rw [h0_2])) (fun i h0_i hi_i hI_i ih_14 H locs hP hD hS ls hl => ?_)
  have hJ := va_left hP
  have hT := va_right hP
  refine lv_iload hx hb dX1_sinkIn_14 (lv_at hl 0 rfl) ?_
  refine zi_if_le (tgt := 72) hx hb ⟨by omega, by omega⟩ dX1_sinkIn_16 (by decide) (fun c_3 => ?_) (fun c_3 => ?_)
  · have _ := c_3
    have h0_i : i = k := by omega
    have hsk : skI R J h k = i := by subst h0_i; exact fst_none hI_i
    refine lv_aload_n hx hb dX1_sinkIn_72 rfl (lv_at hl 3 rfl) ?_
    refine va_get (D := g) (ci := 6) (v := Value.ref (ad 17)) (C := RX6) (T := TX6) (N := 5) hx hb hts in_X1_sinkIn_X6 hown hK.1 hT 0 (rfl) rfl 3 (by decide) (hts _ (List.mem_of_getElem? (i := 1) rfl) : (Cond.fieldLink RX1 154 "CordSeals$State" "shelves" "LCordSeals$Shelves;").before _ s = true) (fun _ h9 => h9) rfl dX1_sinkIn_73 ?_
    refine lv_iload_n hx hb dX1_sinkIn_76 rfl (lv_at hl 4 rfl) ?_
    refine lv_iload hx hb dX1_sinkIn_77 (lv_at hl 0 rfl) ?_
    refine lv_iload hx hb dX1_sinkIn_79 (lv_at hl 1 rfl) ?_
    refine rw_V (As := [Value.int (iI (h : Int)), Value.int (iI ((k - i : Nat) : Int)), Value.int (iI (R 19 (h * 6 + k)))]) (rest := []) ⟨hx, hb, hml, hown, hts⟩ (c_X5_put l g τ ad (u2 R 19 (shr (R 19) (h * 6 + (k - i)) (h * 6 + k))) h (k - i) (by omega) (by omega) (R 19 (h * 6 + k))) gX1_sinkIn_X5_put cd_X5_put rfl rfl ⟨rfl, rfl⟩ ⟨Nat.le_of_ble_eq_true rfl, Nat.le_of_ble_eq_true rfl⟩ hK hP hD hS [54, 55, 56] (c_sh) (by decide) 0 rfl rfl rfl rfl hl rfl (Nat.le_of_ble_eq_true rfl) dX1_sinkIn_81 ⟨Nat.le_of_ble_eq_true rfl, Nat.le_of_ble_eq_true rfl⟩ (fun v w h => by rw [h.2]; exact f_sh _ _ _ _) (fun v w1 H locs hZ hP hD hS => ?_)
    obtain ⟨rfl, rfl⟩ := hZ
    rw [b_jsh, pu_eq, u2_u2] at hP hD
    have hP : va_P g vwCl (juW aj J τ ++ stW ad (u2 R 19 (updZ (shr (R 19) (h * 6 + (k - i)) (h * 6 + k)) (h * 6 + (k - i)) (R 19 (h * 6 + k)))) τ) H := hP
    have hD : va_D A (juW aj J τ ++ stW ad (u2 R 19 (updZ (shr (R 19) (h * 6 + (k - i)) (h * 6 + k)) (h * 6 + (k - i)) (R 19 (h * 6 + k)))) τ) := hD
    have hJ := va_left hP
    have hT := va_right hP
    refine tl_none ?_
    exact rw_vret hx hb hr hlocks hP hS (⟨rfl, by rw [skF, hsk]⟩) dX1_sinkIn_84
  · have _ := c_3
    have hl_i : i < k := by omega
    refine lv_aload_n hx hb dX1_sinkIn_19 rfl (lv_at hl 2 rfl) ?_
    refine lv_aload_n hx hb dX1_sinkIn_20 rfl (lv_at hl 3 rfl) ?_
    refine va_get (D := g) (ci := 6) (v := Value.ref (ad 17)) (C := RX6) (T := TX6) (N := 5) hx hb hts in_X1_sinkIn_X6 hown hK.1 hT 0 (rfl) rfl 3 (by decide) (hts _ (List.mem_of_getElem? (i := 1) rfl) : (Cond.fieldLink RX1 154 "CordSeals$State" "shelves" "LCordSeals$Shelves;").before _ s = true) (fun _ h9 => h9) rfl dX1_sinkIn_21 ?_
    refine lv_iload_n hx hb dX1_sinkIn_24 rfl (lv_at hl 4 rfl) ?_
    refine lv_iload hx hb dX1_sinkIn_25 (lv_at hl 0 rfl) ?_
    refine lv_iconst (v := iI 1) hx hb dX1_sinkIn_27 (by decide) ?_
    refine zi_sub hx hb dX1_sinkIn_28 ?_
    refine cv_i (y := iI ((k - i - 1 : Nat) : Int)) (congrArg iI (by omega)) ?_
    have hx1 := hrow (k - 1 - i) (by omega)
    have hgb : gAt R h (k - 1 - i) = (R 19 (h * 6 + (k - 1 - i))).toNat := rfl
    refine ro_V (As := [Value.int (iI (h : Int)), Value.int (iI ((k - i - 1 : Nat) : Int))]) (rest := [Value.ref (aj 0)]) (v := some (Value.int (iI ((shr (R 19) (h * 6 + (k - i)) (h * 6 + k)) (h * 6 + (k - i - 1)))))) ⟨hx, hb, hml, hown, hts⟩ (c_X5_at l g τ ad (u2 R 19 (shr (R 19) (h * 6 + (k - i)) (h * 6 + k))) h (k - i - 1) (by omega) (by omega)) gX1_sinkIn_X5_at cd_X5_at rfl rfl ⟨rfl, rfl⟩ ⟨Nat.le_of_ble_eq_true rfl, Nat.le_of_ble_eq_true rfl⟩ hK (hT.sub [17, 18, 19] rfl) 0 rfl rfl rfl rfl hl rfl (Nat.le_of_ble_eq_true rfl) dX1_sinkIn_29 ⟨Nat.le_of_ble_eq_true rfl, Nat.le_of_ble_eq_true rfl⟩ ?_
    refine tl_some ?_
    refine cv_i (y := iI ((gAt R h (k - 1 - i) : Nat) : Int)) (congrArg iI (by rw [shr_lo (by omega)]; have hx1 := hrow (k - 1 - i) (by omega); rw [show h * 6 + (k - i - 1) = h * 6 + (k - 1 - i) from by omega]; unfold gAt; omega)) ?_
    refine ro_V (As := [Value.int (iI ((gAt R h (k - 1 - i) : Nat) : Int))]) (rest := []) (v := some (Value.int (iI (rkJ J (gAt R h (k - 1 - i)))))) ⟨hx, hb, hml, hown, hts⟩ (c_X1_rankOf2 l g τ ad aj (u2 R 19 (shr (R 19) (h * 6 + (k - i)) (h * 6 + k))) J hjb (gAt R h (k - 1 - i)) (by omega)) gX1_sinkIn_X1_rankOf cd_X1_rankOf rfl rfl ⟨rfl, rfl⟩ ⟨Nat.le_of_ble_eq_true rfl, Nat.le_of_ble_eq_true rfl⟩ hK hP 0 rfl rfl rfl rfl hl rfl (Nat.le_of_ble_eq_true rfl) dX1_sinkIn_32 ⟨Nat.le_of_ble_eq_true rfl, Nat.le_of_ble_eq_true rfl⟩ ?_
    refine tl_some ?_
    have hrk3 := rkJ_r hjb (gAt R h (k - 1 - i))
    refine lv_aload_n hx hb dX1_sinkIn_35 rfl (lv_at hl 2 rfl) ?_
    refine lv_iload hx hb dX1_sinkIn_36 (lv_at hl 1 rfl) ?_
    refine cv_i (y := iI ((gAt R h k : Nat) : Int)) (congrArg iI (by omega)) ?_
    refine ro_V (As := [Value.int (iI ((gAt R h k : Nat) : Int))]) (rest := [Value.int (iI (rkJ J (gAt R h (k - 1 - i))))]) (v := some (Value.int (iI (rkJ J (gAt R h k))))) ⟨hx, hb, hml, hown, hts⟩ (c_X1_rankOf2 l g τ ad aj (u2 R 19 (shr (R 19) (h * 6 + (k - i)) (h * 6 + k))) J hjb (gAt R h k) (by omega)) gX1_sinkIn_X1_rankOf cd_X1_rankOf rfl rfl ⟨rfl, rfl⟩ ⟨Nat.le_of_ble_eq_true rfl, Nat.le_of_ble_eq_true rfl⟩ hK hP 0 rfl rfl rfl rfl hl rfl (Nat.le_of_ble_eq_true rfl) dX1_sinkIn_38 ⟨Nat.le_of_ble_eq_true rfl, Nat.le_of_ble_eq_true rfl⟩ ?_
    refine tl_some ?_
    have hrk3 := rkJ_r hjb (gAt R h k)
    refine zi_icmp_le (tgt := 72) hx hb ⟨by omega, by omega⟩ ⟨by omega, by omega⟩ dX1_sinkIn_41 (by decide) (fun c_4 => ?_) (fun c_4 => ?_)
    · have _ := c_4
      have hsk : skI R J h k = i := fst_some hI_i (by rw [decide_eq_false (by omega)]; rfl) hl_i
      refine lv_aload_n hx hb dX1_sinkIn_72 rfl (lv_at hl 3 rfl) ?_
      refine va_get (D := g) (ci := 6) (v := Value.ref (ad 17)) (C := RX6) (T := TX6) (N := 5) hx hb hts in_X1_sinkIn_X6 hown hK.1 hT 0 (rfl) rfl 3 (by decide) (hts _ (List.mem_of_getElem? (i := 1) rfl) : (Cond.fieldLink RX1 154 "CordSeals$State" "shelves" "LCordSeals$Shelves;").before _ s = true) (fun _ h9 => h9) rfl dX1_sinkIn_73 ?_
      refine lv_iload_n hx hb dX1_sinkIn_76 rfl (lv_at hl 4 rfl) ?_
      refine lv_iload hx hb dX1_sinkIn_77 (lv_at hl 0 rfl) ?_
      refine lv_iload hx hb dX1_sinkIn_79 (lv_at hl 1 rfl) ?_
      refine rw_V (As := [Value.int (iI (h : Int)), Value.int (iI ((k - i : Nat) : Int)), Value.int (iI (R 19 (h * 6 + k)))]) (rest := []) ⟨hx, hb, hml, hown, hts⟩ (c_X5_put l g τ ad (u2 R 19 (shr (R 19) (h * 6 + (k - i)) (h * 6 + k))) h (k - i) (by omega) (by omega) (R 19 (h * 6 + k))) gX1_sinkIn_X5_put cd_X5_put rfl rfl ⟨rfl, rfl⟩ ⟨Nat.le_of_ble_eq_true rfl, Nat.le_of_ble_eq_true rfl⟩ hK hP hD hS [54, 55, 56] (c_sh) (by decide) 0 rfl rfl rfl rfl hl rfl (Nat.le_of_ble_eq_true rfl) dX1_sinkIn_81 ⟨Nat.le_of_ble_eq_true rfl, Nat.le_of_ble_eq_true rfl⟩ (fun v w h => by rw [h.2]; exact f_sh _ _ _ _) (fun v w1 H locs hZ hP hD hS => ?_)
      obtain ⟨rfl, rfl⟩ := hZ
      rw [b_jsh, pu_eq, u2_u2] at hP hD
      have hP : va_P g vwCl (juW aj J τ ++ stW ad (u2 R 19 (updZ (shr (R 19) (h * 6 + (k - i)) (h * 6 + k)) (h * 6 + (k - i)) (R 19 (h * 6 + k)))) τ) H := hP
      have hD : va_D A (juW aj J τ ++ stW ad (u2 R 19 (updZ (shr (R 19) (h * 6 + (k - i)) (h * 6 + k)) (h * 6 + (k - i)) (R 19 (h * 6 + k)))) τ) := hD
      have hJ := va_left hP
      have hT := va_right hP
      refine tl_none ?_
      exact rw_vret hx hb hr hlocks hP hS (⟨rfl, by rw [skF, hsk]⟩) dX1_sinkIn_84
    · have _ := c_4
      refine lv_aload_n hx hb dX1_sinkIn_44 rfl (lv_at hl 3 rfl) ?_
      refine va_get (D := g) (ci := 6) (v := Value.ref (ad 17)) (C := RX6) (T := TX6) (N := 5) hx hb hts in_X1_sinkIn_X6 hown hK.1 hT 0 (rfl) rfl 3 (by decide) (hts _ (List.mem_of_getElem? (i := 1) rfl) : (Cond.fieldLink RX1 154 "CordSeals$State" "shelves" "LCordSeals$Shelves;").before _ s = true) (fun _ h9 => h9) rfl dX1_sinkIn_45 ?_
      refine lv_iload_n hx hb dX1_sinkIn_48 rfl (lv_at hl 4 rfl) ?_
      refine lv_iload hx hb dX1_sinkIn_49 (lv_at hl 0 rfl) ?_
      refine lv_aload_n hx hb dX1_sinkIn_51 rfl (lv_at hl 3 rfl) ?_
      refine va_get (D := g) (ci := 6) (v := Value.ref (ad 17)) (C := RX6) (T := TX6) (N := 5) hx hb hts in_X1_sinkIn_X6 hown hK.1 hT 0 (rfl) rfl 3 (by decide) (hts _ (List.mem_of_getElem? (i := 1) rfl) : (Cond.fieldLink RX1 154 "CordSeals$State" "shelves" "LCordSeals$Shelves;").before _ s = true) (fun _ h9 => h9) rfl dX1_sinkIn_52 ?_
      refine lv_iload_n hx hb dX1_sinkIn_55 rfl (lv_at hl 4 rfl) ?_
      refine lv_iload hx hb dX1_sinkIn_56 (lv_at hl 0 rfl) ?_
      refine lv_iconst (v := iI 1) hx hb dX1_sinkIn_58 (by decide) ?_
      refine zi_sub hx hb dX1_sinkIn_59 ?_
      refine cv_i (y := iI ((k - i - 1 : Nat) : Int)) (congrArg iI (by omega)) ?_
      refine ro_V (As := [Value.int (iI (h : Int)), Value.int (iI ((k - i - 1 : Nat) : Int))]) (rest := [Value.int (iI ((k - i : Nat) : Int)), Value.int (iI (h : Int)), Value.ref (ad 17)]) (v := some (Value.int (iI ((shr (R 19) (h * 6 + (k - i)) (h * 6 + k)) (h * 6 + (k - i - 1)))))) ⟨hx, hb, hml, hown, hts⟩ (c_X5_at l g τ ad (u2 R 19 (shr (R 19) (h * 6 + (k - i)) (h * 6 + k))) h (k - i - 1) (by omega) (by omega)) gX1_sinkIn_X5_at cd_X5_at rfl rfl ⟨rfl, rfl⟩ ⟨Nat.le_of_ble_eq_true rfl, Nat.le_of_ble_eq_true rfl⟩ hK (hT.sub [17, 18, 19] rfl) 0 rfl rfl rfl rfl hl rfl (Nat.le_of_ble_eq_true rfl) dX1_sinkIn_60 ⟨Nat.le_of_ble_eq_true rfl, Nat.le_of_ble_eq_true rfl⟩ ?_
      refine tl_some ?_
      refine rw_V (As := [Value.int (iI (h : Int)), Value.int (iI ((k - i : Nat) : Int)), Value.int (iI ((shr (R 19) (h * 6 + (k - i)) (h * 6 + k)) (h * 6 + (k - i - 1))))]) (rest := []) ⟨hx, hb, hml, hown, hts⟩ (c_X5_put l g τ ad (u2 R 19 (shr (R 19) (h * 6 + (k - i)) (h * 6 + k))) h (k - i) (by omega) (by omega) ((shr (R 19) (h * 6 + (k - i)) (h * 6 + k)) (h * 6 + (k - i - 1)))) gX1_sinkIn_X5_put cd_X5_put rfl rfl ⟨rfl, rfl⟩ ⟨Nat.le_of_ble_eq_true rfl, Nat.le_of_ble_eq_true rfl⟩ hK hP hD hS [54, 55, 56] (c_sh) (by decide) 0 rfl rfl rfl rfl hl rfl (Nat.le_of_ble_eq_true rfl) dX1_sinkIn_63 ⟨Nat.le_of_ble_eq_true rfl, Nat.le_of_ble_eq_true rfl⟩ (fun v w h => by rw [h.2]; exact f_sh _ _ _ _) (fun v w1 H locs hZ hP hD hS => ?_)
      obtain ⟨rfl, rfl⟩ := hZ
      rw [b_jsh, pu_eq, u2_u2] at hP hD
      have hP : va_P g vwCl (juW aj J τ ++ stW ad (u2 R 19 (updZ (shr (R 19) (h * 6 + (k - i)) (h * 6 + k)) (h * 6 + (k - i)) ((shr (R 19) (h * 6 + (k - i)) (h * 6 + k)) (h * 6 + (k - i - 1))))) τ) H := hP
      have hD : va_D A (juW aj J τ ++ stW ad (u2 R 19 (updZ (shr (R 19) (h * 6 + (k - i)) (h * 6 + k)) (h * 6 + (k - i)) ((shr (R 19) (h * 6 + (k - i)) (h * 6 + k)) (h * 6 + (k - i - 1))))) τ) := hD
      have hJ := va_left hP
      have hT := va_right hP
      refine tl_none ?_
      refine zi_inc (v := ((k - (i + 1) : Nat) : Int)) (lv' := [(5, Value.int (iI ((k - (i + 1) : Nat) : Int))), (4, Value.int (iI (R 19 (h * 6 + k)))), (0, Value.ref (aj 0)), (1, Value.ref (ad 0)), (2, Value.int (iI (h : Int))), (3, Value.int (iI (k : Int)))]) hx hb dX1_sinkIn_66 hl (k := 0) rfl (by omega) (by decide) rfl (fun ls hl => ?_)
      refine lv_goto (tgt := 14) hx hb dX1_sinkIn_69 (by decide) ?_
      have hw_5 : juW aj J τ ++ stW ad (u2 R 19 (updZ (shr (R 19) (h * 6 + (k - i)) (h * 6 + k)) (h * 6 + (k - i)) ((shr (R 19) (h * 6 + (k - i)) (h * 6 + k)) (h * 6 + (k - i - 1))))) τ = juW aj J τ ++ stW ad (u2 R 19 (shr (R 19) (h * 6 + (k - (i + 1))) (h * 6 + k))) τ := by rw [show h * 6 + (k - i - 1) = h * 6 + (k - i) - 1 from by omega, show h * 6 + (k - (i + 1)) = h * 6 + (k - i) - 1 from by omega, ← shr_s (by omega) (by omega)]
      rw [hw_5] at hP hD
      exact ih_14 hl_i (lt_step hI_i (by rw [decide_eq_true (by assumption)]; rfl)) _ _ _ hP hD hS (lv_eq (lv_sub hl [0, 1, 2, 3, 4, 5] rfl) (by show [(5, Value.int (iI ((k - (i + 1) : Nat) : Int))), (4, Value.int (iI (R 19 (h * 6 + k)))), (0, Value.ref (aj 0)), (1, Value.ref (ad 0)), (2, Value.int (iI (h : Int))), (3, Value.int (iI (k : Int)))] = [(5, Value.int (iI ((k - (i + 1) : Nat) : Int))), (4, Value.int (iI (R 19 (h * 6 + k)))), (0, Value.ref (aj 0)), (1, Value.ref (ad 0)), (2, Value.int (iI (h : Int))), (3, Value.int (iI (k : Int)))]; rfl))
