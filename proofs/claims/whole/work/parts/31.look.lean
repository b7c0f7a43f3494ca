theorem f_ju (aj ad : Nat → Nat) (J J2 R : Nat → Nat → Int) (τ : Nat → ClassId) : (juW aj J2 τ ++ stW ad R τ).map Prod.fst = (juW aj J τ ++ stW ad R τ).map Prod.fst := by
  have e : ∀ J, (juW aj J τ).map Prod.fst = [aj 0, aj 1, aj 2, aj 3, aj 4, aj 5] ++ (List.range 31).map (fun i => aj (10 + i)) := fun J => by
    unfold juW juY
    rw [List.map_append, List.map_map]
    rfl
  rw [List.map_append, List.map_append, e, e]
theorem full_len (aj ad : Nat → Nat) (J R : Nat → Nat → Int) (τ : Nat → ClassId) : (juW aj J τ ++ stW ad R τ).length = 58 := by
  rw [List.length_append, juW_len]
  rfl
theorem range_cut {X : va_W} {n : Nat} (h : X.length = n) : (List.range n).map (fun i => X[i]?) = X.map some := by
  refine List.ext_getElem? fun k => ?_
  rw [List.getElem?_map, List.getElem?_map]
  by_cases hk : k < n
  · rw [List.getElem?_range hk, List.getElem?_eq_getElem (by omega)]
    simp
  · rw [List.getElem?_eq_none (by simpa using hk), List.getElem?_eq_none (by omega)]
    rfl
theorem full_C (aj ad : Nat → Nat) (J R : Nat → Nat → Int) (τ : Nat → ClassId) : ([0, 1, 2, 3, 4, 5, 6, 7, 8, 9, 10, 11, 12, 13, 14, 15, 16, 17, 18, 19, 20, 21, 22, 23, 24, 25, 26, 27, 28, 29, 30, 31, 32, 33, 34, 35, 36, 37, 38, 39, 40, 41, 42, 43, 44, 45, 46, 47, 48, 49, 50, 51, 52, 53, 54, 55, 56, 57] : List Nat).map (fun i => (juW aj J τ ++ stW ad R τ)[i]?) = (juW aj J τ ++ stW ad R τ).map some := range_cut (n := 58) (full_len aj ad J R τ)
theorem repl_range : ∀ (Y X P : va_W), X.length = Y.length → va_repl (P ++ X) ((List.range' P.length Y.length).zip Y) = P ++ Y
  | [], X, P, h => by
    have : X = [] := List.length_eq_zero_iff.mp h
    subst this
    rfl
  | y :: Y, X, P, h => by
    cases X with
    | nil => cases h
    | cons x X =>
      have h2 : X.length = Y.length := by simpa using h
      rw [List.length_cons, List.range'_succ]
      show va_repl ((P ++ x :: X).set P.length y) ((List.range' (P.length + 1) Y.length).zip Y) = _
      rw [List.set_append, if_neg (by omega), Nat.sub_self, List.set_cons_zero]
      have h3 := repl_range Y X (P ++ [y]) h2
      rw [List.length_append, List.length_singleton, List.append_assoc] at h3
      rw [show P ++ y :: X = P ++ ([y] ++ X) from rfl, h3, List.append_assoc]
      rfl
theorem full_r {aj ad : Nat → Nat} {J R J2 R2 : Nat → Nat → Int} {τ : Nat → ClassId} : va_repl (juW aj J τ ++ stW ad R τ) (([0, 1, 2, 3, 4, 5, 6, 7, 8, 9, 10, 11, 12, 13, 14, 15, 16, 17, 18, 19, 20, 21, 22, 23, 24, 25, 26, 27, 28, 29, 30, 31, 32, 33, 34, 35, 36, 37, 38, 39, 40, 41, 42, 43, 44, 45, 46, 47, 48, 49, 50, 51, 52, 53, 54, 55, 56, 57] : List Nat).zip (juW aj J2 τ ++ stW ad R2 τ)) = juW aj J2 τ ++ stW ad R2 τ := by
  have h := repl_range (juW aj J2 τ ++ stW ad R2 τ) (juW aj J τ ++ stW ad R τ) [] (by rw [full_len, full_len])
  rw [full_len] at h
  exact h

theorem cd_X1_blame : cd yX1_blame 1 := by decide +kernel
theorem in_X1_blame_X1 : ∀ w ∈ wsX10, w ∈ wsX1_blame := by decide +kernel
theorem in_X1_blame_X4 : ∀ w ∈ wsX40, w ∈ wsX1_blame := by decide +kernel
theorem in_X1_blame_X6 : ∀ w ∈ wsX60, w ∈ wsX1_blame := by decide +kernel
set_option maxHeartbeats 1000000 in
set_option maxRecDepth 100000 in
theorem c_X1_blame (l : Launch) (g : va_G) (τ : Nat → ClassId) (ad aj : Nat → Nat) (R J : Nat → Nat → Int) (hI : SI R) (hjb : HB J) (hjs : JSp J)  : Met l yX1_blame wsX1_blame { frames := 3, cells := 0, slots := 0, locals := 62 } (va_Pc [Value.ref (aj 0), Value.ref (ad 0)] (rwW g τ (juW aj J τ ++ stW ad R τ))) (rwQ g (fun v w => v = none ∧ w = juW aj (blameJ R J) τ ++ stW ad R τ) (inW (juW aj J τ ++ stW ad R τ))) 0 0 (inW (juW aj J τ ++ stW ad R τ)) := by
  have hB := hI.hB
  have hr0 := hI.r
  have hd0 := hI.d
  have hs0 := hI.s
  have hN := hI.hN
  refine rwMet (cc := cX1_blame) (maxL := 3) (ret := none) (lv := [(0, Value.ref (aj 0)), (1, Value.ref (ad 0))]) (by decide) rfl (Nat.le_of_ble_eq_true rfl) rfl ?_
  intro p e s m below meth c hx hb hr hml hts hown hlocks A H hP hD hS hK ls hl
  have hJ := va_left hP
  have hT := va_right hP
  refine lv_iconst (v := iI 0) hx hb dX1_blame_0 (by decide) ?_
  refine lv_istore_n (lv' := [(2, Value.int (iI 0)), (0, Value.ref (aj 0)), (1, Value.ref (ad 0))]) hx hb dX1_blame_1 rfl hl (by decide) rfl (fun ls hl => ?_)
  have hP : va_P g vwCl (juW aj (u2 J 3 (owF R J 0)) τ ++ stW ad R τ) H := by first | exact hP | (rw [show juW aj (u2 J 3 (owF R J 0)) τ = juW aj J τ from by rw [owF_0, u2_id]]; exact hP)
  have hD : va_D A (juW aj (u2 J 3 (owF R J 0)) τ ++ stW ad R τ) := by first | exact hD | (rw [show juW aj (u2 J 3 (owF R J 0)) τ = juW aj J τ from by rw [owF_0, u2_id]]; exact hD)
  refine lp_upW (fun i => [(2, Value.int (iI (i : Int))), (0, Value.ref (aj 0)), (1, Value.ref (ad 0))]) (fun i => juW aj (u2 J 3 (owF R J i)) τ ++ stW ad R τ) (fun i => True) ((R 10 0).toNat) (0) (by omega) hP hD hS (by first | trivial | (intro j hj; omega)) (lv_eq (lv_sub hl [0, 1, 2] rfl) (by show [(2, Value.int (iI 0)), (0, Value.ref (aj 0)), (1, Value.ref (ad 0))] = [(2, Value.int (iI 0)), (0, Value.ref (aj 0)), (1, Value.ref (ad 0))]; rfl)) (fun i h0_i hi_i hI_i ih_2 H locs hP hD hS ls hl => ?_)
  have hJ := va_left hP
  have hT := va_right hP
  refine lv_iload_n hx hb dX1_blame_2 rfl (lv_at hl 0 rfl) ?_
  refine lv_aload_n hx hb dX1_blame_3 rfl (lv_at hl 2 rfl) ?_
  refine va_get (D := g) (ci := 6) (v := Value.ref (ad 10)) (C := RX6) (T := TX6) (N := 5) hx hb hts in_X1_blame_X6 hown hK.1 hT 0 (rfl) rfl 2 (by decide) (hts _ (List.mem_of_getElem? (i := 1) rfl) : (Cond.fieldLink RX1 42 "CordSeals$State" "seals" "LCordSeals$Seals;").before _ s = true) (fun _ h9 => h9) rfl dX1_blame_4 ?_
  refine va_get (D := g) (ci := 4) (v := Value.int (iI (R 10 0))) (C := RX4) (T := TX4) (N := 7) hx hb hts in_X1_blame_X4 hown hK.1 hT 10 (rfl) rfl 0 (by decide) (hts _ (List.mem_of_getElem? (i := 2) rfl) : (Cond.fieldLink RX1 48 "CordSeals$Seals" "count" "I").before _ s = true) (fun _ h9 => h9) rfl dX1_blame_7 ?_
  have hb_1 := hB 10 0
  refine zi_icmp_ge (tgt := 31) hx hb ⟨by omega, by omega⟩ ⟨by omega, by omega⟩ dX1_blame_10 (by decide) (fun c_2 => ?_) (fun c_2 => ?_)
  · have _ := c_2
    have h0_i : i = (R 10 0).toNat := by omega
    refine lv_iconst (v := iI 0) hx hb dX1_blame_31 (by decide) ?_
    refine lv_istore_n (lv' := [(2, Value.int (iI 0)), (0, Value.ref (aj 0)), (1, Value.ref (ad 0))]) hx hb dX1_blame_32 rfl hl (by decide) rfl (fun ls hl => ?_)
    have hP : va_P g vwCl (juW aj (blB R (u2 J 3 (owF R J (R 10 0).toNat)) 0) τ ++ stW ad R τ) H := by first | exact hP | (rw [h0_i] at hP; exact hP)
    have hD : va_D A (juW aj (blB R (u2 J 3 (owF R J (R 10 0).toNat)) 0) τ ++ stW ad R τ) := by first | exact hD | (rw [h0_i] at hD; exact hD)
    refine lp_upW (fun c1 => [(2, Value.int (iI (c1 : Int))), (0, Value.ref (aj 0)), (1, Value.ref (ad 0))]) (fun c1 => juW aj (blB R (u2 J 3 (owF R J (R 10 0).toNat)) c1) τ ++ stW ad R τ) (fun c1 => True) (6) (0) (by omega) hP hD hS (by first | trivial | (intro j hj; omega)) (lv_eq (lv_sub hl [0, 1, 2] rfl) (by show [(2, Value.int (iI 0)), (0, Value.ref (aj 0)), (1, Value.ref (ad 0))] = [(2, Value.int (iI 0)), (0, Value.ref (aj 0)), (1, Value.ref (ad 0))]; rfl)) (fun c1 h0_c1 hi_c1 hI_c1 ih_33 H locs hP hD hS ls hl => ?_)
    have hJ := va_left hP
    have hT := va_right hP
    have hok := blB_ok hI (HB_row hjb (owF_r (R := R) hjb (R 10 0).toNat)) (JSp_u2 hjs (k := 3) (f := owF R J (R 10 0).toNat) (by omega)) c1
    have ho1 := bl1_ok hI hok.1 hok.2 c1
    have ho2 := bl2_ok hI hok.1 hok.2 c1
    have hz0 := ho1.1 0 30
    have hz1 := ho1.1 1 30
    have hz2 := ho1.1 2 30
    have hz3 := ho1.2 30 (by omega)
    refine lv_iload_n hx hb dX1_blame_33 rfl (lv_at hl 0 rfl) ?_
    refine lv_bipush (v := iI 6) hx hb dX1_blame_34 (by decide) ?_
    refine zi_icmp_ge (tgt := 86) hx hb ⟨by omega, by omega⟩ ⟨by decide, by decide⟩ dX1_blame_36 (by decide) (fun c_3 => ?_) (fun c_3 => ?_)
    · have _ := c_3
      have h0_c1 : c1 = 6 := by omega
      exact rw_vret hx hb hr hlocks hP hS (⟨rfl, by rw [h0_c1]; rfl⟩) dX1_blame_86
    · have _ := c_3
      have hl_c1 : c1 < 6 := by omega
      refine lv_aload_n hx hb dX1_blame_39 rfl (lv_at hl 1 rfl) ?_
      refine lv_aload_n hx hb dX1_blame_40 rfl (lv_at hl 2 rfl) ?_
      refine lv_iload_n hx hb dX1_blame_41 rfl (lv_at hl 0 rfl) ?_
      refine lv_iconst (v := iI (-1)) hx hb dX1_blame_42 (by decide) ?_
      refine rw_V (As := [Value.ref (ad 0), Value.int (iI (c1 : Int)), Value.int (iI (-1))]) (rest := []) ⟨hx, hb, hml, hown, hts⟩ (c_X1_findCommon l g τ ad aj R (blB R (u2 J 3 (owF R J (R 10 0).toNat)) c1) hI hok.1 hok.2 (c1 : Int) ⟨by omega, by omega⟩ (-1) ⟨by omega, by omega⟩) gX1_blame_X1_findCommon cd_X1_findCommon rfl rfl ⟨rfl, rfl⟩ ⟨Nat.le_of_ble_eq_true rfl, Nat.le_of_ble_eq_true rfl⟩ hK hP hD hS [0, 1, 2, 3, 4, 5, 6, 7, 8, 9, 10, 11, 12, 13, 14, 15, 16, 17, 18, 19, 20, 21, 22, 23, 24, 25, 26, 27, 28, 29, 30, 31, 32, 33, 34, 35, 36, 37, 38, 39, 40, 41, 42, 43, 44, 45, 46, 47, 48, 49, 50, 51, 52, 53, 54, 55, 56, 57] (full_C _ _ _ _ _) ((by decide)) 0 rfl rfl rfl rfl hl rfl (Nat.le_of_ble_eq_true rfl) dX1_blame_43 ⟨Nat.le_of_ble_eq_true rfl, Nat.le_of_ble_eq_true rfl⟩ (fun v w h => by rw [h.2]; exact f_ju _ _ _ _ _ _) (fun v w1 H locs hZ hP hD hS => ?_)
      obtain ⟨rfl, rfl⟩ := hZ
      rw [full_r] at hP hD
      have hP : va_P g vwCl (juW aj (bl1 R (blB R (u2 J 3 (owF R J (R 10 0).toNat)) c1) c1) τ ++ stW ad R τ) H := hP
      have hD : va_D A (juW aj (bl1 R (blB R (u2 J 3 (owF R J (R 10 0).toNat)) c1) c1) τ ++ stW ad R τ) := hD
      have hJ := va_left hP
      have hT := va_right hP
      refine tl_none ?_
      refine lv_aload_n hx hb dX1_blame_46 rfl (lv_at hl 1 rfl) ?_
      refine va_get (D := g) (ci := 1) (v := Value.ref (aj 2)) (C := RX1) (T := TX1) (N := 6) hx hb hts in_X1_blame_X1 hown hK.1 hJ 0 (rfl) rfl 1 (by decide) (hts _ (List.mem_of_getElem? (i := 4) rfl) : (Cond.fieldLink RX1 17 "CordSeals$Judge" "ofCharters" "[LCordSeals$Years;").before _ s = true) (fun _ h9 => h9) rfl dX1_blame_47 ?_
      refine lv_iload_n hx hb dX1_blame_50 rfl (lv_at hl 0 rfl) ?_
      refine zq_ald hx hb hK hJ 2 3 (C := RX8) (f := (fun i => some (aj (10 + (24 + i))))) (rfl) rfl (c1) (rfl) (by omega) (by decide) (rfl) dX1_blame_51 ?_
      refine lv_aload_n hx hb dX1_blame_52 rfl (lv_at hl 1 rfl) ?_
      refine va_get (D := g) (ci := 1) (v := Value.ref (aj (10 + 30))) (C := RX1) (T := TX1) (N := 6) hx hb hts in_X1_blame_X1 hown hK.1 hJ 0 (rfl) rfl 5 (by decide) (hts _ (List.mem_of_getElem? (i := 5) rfl) : (Cond.fieldLink RX1 31 "CordSeals$Judge" "common" "LCordSeals$Years;").before _ s = true) (fun _ h9 => h9) rfl dX1_blame_53 ?_
      refine rw_V (As := [Value.ref (aj (10 + 30))]) (rest := []) ⟨hx, hb, hml, hown, hts⟩ (c_X8_copy l g τ (aj (10 + (24 + c1))) (aj (10 + 30)) ((bl1 R (blB R (u2 J 3 (owF R J (R 10 0).toNat)) c1) c1) 0 (24 + c1)) ((bl1 R (blB R (u2 J 3 (owF R J (R 10 0).toNat)) c1) c1) 1 (24 + c1)) ((bl1 R (blB R (u2 J 3 (owF R J (R 10 0).toNat)) c1) c1) 2 (24 + c1)) ((bl1 R (blB R (u2 J 3 (owF R J (R 10 0).toNat)) c1) c1) 0 30) ((bl1 R (blB R (u2 J 3 (owF R J (R 10 0).toNat)) c1) c1) 1 30) ((bl1 R (blB R (u2 J 3 (owF R J (R 10 0).toNat)) c1) c1) 2 30)) gX1_blame_X8_copy cd_X8_copy rfl rfl ⟨rfl, rfl⟩ ⟨Nat.le_of_ble_eq_true rfl, Nat.le_of_ble_eq_true rfl⟩ hK hP hD hS [6 + (24 + c1), 6 + 30] (c_y2 (J := bl1 R (blB R (u2 J 3 (owF R J (R 10 0).toNat)) c1) c1) (i := 24 + c1) (j := 30) (by omega) rfl rfl rfl (by omega) rfl rfl rfl) (nd2 (i := 24 + c1) (j := 30) (by omega)) 0 rfl rfl rfl rfl hl rfl (Nat.le_of_ble_eq_true rfl) dX1_blame_56 ⟨Nat.le_of_ble_eq_true rfl, Nat.le_of_ble_eq_true rfl⟩ (fun v w h => by rw [h.2]; exact f_y2 _ _ _ _ _ _ _ _ _ _ _) (fun v w1 H locs hZ hP hD hS => ?_)
      obtain ⟨rfl, rfl⟩ := hZ
      rw [b_y2 (J := bl1 R (blB R (u2 J 3 (owF R J (R 10 0).toNat)) c1) c1) (i := 24 + c1) (j := 30) (by omega) (by omega) (by omega) _ _ _ rfl rfl rfl] at hP hD
      have hJ := va_left hP
      have hT := va_right hP
      refine tl_none ?_
      refine lv_aload_n hx hb dX1_blame_59 rfl (lv_at hl 1 rfl) ?_
      refine va_get (D := g) (ci := 1) (v := Value.ref (aj (10 + 30))) (C := RX1) (T := TX1) (N := 6) hx hb hts in_X1_blame_X1 hown hK.1 hJ 0 (rfl) rfl 5 (by decide) (hts _ (List.mem_of_getElem? (i := 5) rfl) : (Cond.fieldLink RX1 31 "CordSeals$Judge" "common" "LCordSeals$Years;").before _ s = true) (fun _ h9 => h9) rfl dX1_blame_60 ?_
      refine lv_aload_n hx hb dX1_blame_63 rfl (lv_at hl 2 rfl) ?_
      refine va_get (D := g) (ci := 6) (v := Value.ref (ad 1)) (C := RX6) (T := TX6) (N := 5) hx hb hts in_X1_blame_X6 hown hK.1 hT 0 (rfl) rfl 0 (by decide) (hts _ (List.mem_of_getElem? (i := 6) rfl) : (Cond.fieldLink RX1 73 "CordSeals$State" "reigns" "LCordSeals$Reigns;").before _ s = true) (fun _ h9 => h9) rfl dX1_blame_64 ?_
      refine ro_V (As := [Value.ref (ad 1)]) (rest := []) (v := some (Value.int (iI (yFirst R (R 1 0).toNat (bl1 R (blB R (u2 J 3 (owF R J (R 10 0).toNat)) c1) c1 0 30) (bl1 R (blB R (u2 J 3 (owF R J (R 10 0).toNat)) c1) c1 1 30) (bl1 R (blB R (u2 J 3 (owF R J (R 10 0).toNat)) c1) c1 2 30))))) ⟨hx, hb, hml, hown, hts⟩ (c_X8_first l g τ (aj (10 + 30)) (bl1 R (blB R (u2 J 3 (owF R J (R 10 0).toNat)) c1) c1 0 30) (bl1 R (blB R (u2 J 3 (owF R J (R 10 0).toNat)) c1) c1 1 30) (bl1 R (blB R (u2 J 3 (owF R J (R 10 0).toNat)) c1) c1 2 30) ⟨by omega, by omega⟩ ⟨by omega, by omega⟩ ⟨by omega, by omega⟩ ad R hB (R 1 0).toNat (by omega) (by omega)) gX1_blame_X8_first cd_X8_first rfl rfl ⟨rfl, rfl⟩ ⟨Nat.le_of_ble_eq_true rfl, Nat.le_of_ble_eq_true rfl⟩ hK ((y1o hJ (by omega) (yset_o (by omega)) (yset_o (by omega)) (yset_o (by omega))).app (hT.sub [1, 2, 3] rfl)) 0 rfl rfl rfl rfl hl rfl (Nat.le_of_ble_eq_true rfl) dX1_blame_67 ⟨Nat.le_of_ble_eq_true rfl, Nat.le_of_ble_eq_true rfl⟩ ?_
      refine tl_some ?_
      have hyf := yFirst_r hB (R 1 0).toNat (lo := (bl1 R (blB R (u2 J 3 (owF R J (R 10 0).toNat)) c1) c1 0 30)) ⟨by omega, by omega⟩ (bl1 R (blB R (u2 J 3 (owF R J (R 10 0).toNat)) c1) c1 1 30) (bl1 R (blB R (u2 J 3 (owF R J (R 10 0).toNat)) c1) c1 2 30)
      refine lv_iconst (v := iI (-1)) hx hb dX1_blame_70 (by decide) ?_
      refine zi_icmp_ne (tgt := 80) hx hb ⟨by omega, by omega⟩ ⟨by decide, by decide⟩ dX1_blame_71 (by decide) (fun c_4 => ?_) (fun c_4 => ?_)
      · have _ := c_4
        have hww := congrArg (fun z => juW aj z τ ++ stW ad R τ) (show bl2 R (blB R (u2 J 3 (owF R J (R 10 0).toNat)) c1) c1 = blB R (u2 J 3 (owF R J (R 10 0).toNat)) (c1 + 1) from by rw [blB, blS, if_neg (by assumption)])
        refine zi_inc (v := ((c1 + 1 : Nat) : Int)) (lv' := [(2, Value.int (iI ((c1 + 1 : Nat) : Int))), (0, Value.ref (aj 0)), (1, Value.ref (ad 0))]) hx hb dX1_blame_80 hl (k := 0) rfl (by omega) (by decide) rfl (fun ls hl => ?_)
        refine lv_goto (tgt := 33) hx hb dX1_blame_83 (by decide) ?_
        have hb_5 : (((c1 + 1) : Nat) : Int) = ((c1 + 1 : Nat) : Int) := by first | rfl | omega | (simp [c_2, h0_i, c_3, c_4]; done)
        have hw_6 : juW aj (yset (bl1 R (blB R (u2 J 3 (owF R J (R 10 0).toNat)) c1) c1) (24 + c1) ((bl1 R (blB R (u2 J 3 (owF R J (R 10 0).toNat)) c1) c1) 0 30) ((bl1 R (blB R (u2 J 3 (owF R J (R 10 0).toNat)) c1) c1) 1 30) ((bl1 R (blB R (u2 J 3 (owF R J (R 10 0).toNat)) c1) c1) 2 30)) τ ++ stW ad R τ = juW aj (blB R (u2 J 3 (owF R J (R 10 0).toNat)) (c1 + 1)) τ ++ stW ad R τ := hww
        rw [hw_6] at hP hD
        exact ih_33 hl_c1 (trivial) _ _ _ hP hD hS (lv_eq (lv_sub hl [0, 1, 2] rfl) (by show [(2, Value.int (iI (((c1 + 1) : Nat) : Int))), (0, Value.ref (aj 0)), (1, Value.ref (ad 0))] = [(2, Value.int (iI ((c1 + 1 : Nat) : Int))), (0, Value.ref (aj 0)), (1, Value.ref (ad 0))]; rw [hb_5]))
      · have _ := c_4
        have hww := congrArg (fun z => juW aj z τ ++ stW ad R τ) (show u2 (bl2 R (blB R (u2 J 3 (owF R J (R 10 0).toNat)) c1) c1) 3 (bcF R (bl2 R (blB R (u2 J 3 (owF R J (R 10 0).toNat)) c1) c1) c1 (R 10 0).toNat) = blB R (u2 J 3 (owF R J (R 10 0).toNat)) (c1 + 1) from by rw [blB, blS, if_pos (by assumption)])
        refine lv_aload_n hx hb dX1_blame_74 rfl (lv_at hl 1 rfl) ?_
        refine lv_aload_n hx hb dX1_blame_75 rfl (lv_at hl 2 rfl) ?_
        refine lv_iload_n hx hb dX1_blame_76 rfl (lv_at hl 0 rfl) ?_
        refine rw_V (As := [Value.ref (ad 0), Value.int (iI (c1 : Int))]) (rest := []) ⟨hx, hb, hml, hown, hts⟩ (c_X1_blameCharter l g τ ad aj R (yset (bl1 R (blB R (u2 J 3 (owF R J (R 10 0).toNat)) c1) c1) (24 + c1) ((bl1 R (blB R (u2 J 3 (owF R J (R 10 0).toNat)) c1) c1) 0 30) ((bl1 R (blB R (u2 J 3 (owF R J (R 10 0).toNat)) c1) c1) 1 30) ((bl1 R (blB R (u2 J 3 (owF R J (R 10 0).toNat)) c1) c1) 2 30)) hI ho2.1 (c1 : Int) ⟨by omega, by omega⟩) gX1_blame_X1_blameCharter cd_X1_blameCharter rfl rfl ⟨rfl, rfl⟩ ⟨Nat.le_of_ble_eq_true rfl, Nat.le_of_ble_eq_true rfl⟩ hK hP hD hS [0, 1, 2, 3, 4, 5, 6, 7, 8, 9, 10, 11, 12, 13, 14, 15, 16, 17, 18, 19, 20, 21, 22, 23, 24, 25, 26, 27, 28, 29, 30, 31, 32, 33, 34, 35, 36, 37, 38, 39, 40, 41, 42, 43, 44, 45, 46, 47, 48, 49, 50, 51, 52, 53, 54, 55, 56, 57] (full_C _ _ _ _ _) ((by decide)) 0 rfl rfl rfl rfl hl rfl (Nat.le_of_ble_eq_true rfl) dX1_blame_77 ⟨Nat.le_of_ble_eq_true rfl, Nat.le_of_ble_eq_true rfl⟩ (fun v w h => by rw [h.2]; exact f_ju _ _ _ _ _ _) (fun v w1 H locs hZ hP hD hS => ?_)
        obtain ⟨rfl, rfl⟩ := hZ
        rw [full_r] at hP hD
        have hP : va_P g vwCl (juW aj (u2 (bl2 R (blB R (u2 J 3 (owF R J (R 10 0).toNat)) c1) c1) 3 (bcF R (bl2 R (blB R (u2 J 3 (owF R J (R 10 0).toNat)) c1) c1) c1 (R 10 0).toNat)) τ ++ stW ad R τ) H := hP
        have hD : va_D A (juW aj (u2 (bl2 R (blB R (u2 J 3 (owF R J (R 10 0).toNat)) c1) c1) 3 (bcF R (bl2 R (blB R (u2 J 3 (owF R J (R 10 0).toNat)) c1) c1) c1 (R 10 0).toNat)) τ ++ stW ad R τ) := hD
        have hJ := va_left hP
        have hT := va_right hP
        refine tl_none ?_
        refine zi_inc (v := ((c1 + 1 : Nat) : Int)) (lv' := [(2, Value.int (iI ((c1 + 1 : Nat) : Int))), (0, Value.ref (aj 0)), (1, Value.ref (ad 0))]) hx hb dX1_blame_80 hl (k := 0) rfl (by omega) (by decide) rfl (fun ls hl => ?_)
        refine lv_goto (tgt := 33) hx hb dX1_blame_83 (by decide) ?_
        have hb_7 : (((c1 + 1) : Nat) : Int) = ((c1 + 1 : Nat) : Int) := by first | rfl | omega | (simp [c_2, h0_i, c_3, c_4]; done)
        have hw_8 : juW aj (u2 (bl2 R (blB R (u2 J 3 (owF R J (R 10 0).toNat)) c1) c1) 3 (bcF R (bl2 R (blB R (u2 J 3 (owF R J (R 10 0).toNat)) c1) c1) c1 (R 10 0).toNat)) τ ++ stW ad R τ = juW aj (blB R (u2 J 3 (owF R J (R 10 0).toNat)) (c1 + 1)) τ ++ stW ad R τ := hww
        rw [hw_8] at hP hD
        exact ih_33 hl_c1 (trivial) _ _ _ hP hD hS (lv_eq (lv_sub hl [0, 1, 2] rfl) (by show [(2, Value.int (iI (((c1 + 1) : Nat) : Int))), (0, Value.ref (aj 0)), (1, Value.ref (ad 0))] = [(2, Value.int (iI ((c1 + 1 : Nat) : Int))), (0, Value.ref (aj 0)), (1, Value.ref (ad 0))]; rw [hb_7]))
  · have _ := c_2
    have hl_i : i < (R 10 0).toNat := by omega
    refine lv_aload_n hx hb dX1_blame_13 rfl (lv_at hl 1 rfl) ?_
    refine va_get (D := g) (ci := 1) (v := Value.ref (aj 3)) (C := RX1) (T := TX1) (N := 6) hx hb hts in_X1_blame_X1 hown hK.1 hJ 0 (rfl) rfl 2 (by decide) (hts _ (List.mem_of_getElem? (i := 3) rfl) : (Cond.fieldLink RX1 20 "CordSeals$Judge" "reason" "[I").before _ s = true) (fun _ h9 => h9) rfl dX1_blame_14 ?_
    refine lv_iload_n hx hb dX1_blame_17 rfl (lv_at hl 0 rfl) ?_
    refine lv_aload_n hx hb dX1_blame_18 rfl (lv_at hl 1 rfl) ?_
    refine lv_aload_n hx hb dX1_blame_19 rfl (lv_at hl 2 rfl) ?_
    refine lv_iload_n hx hb dX1_blame_20 rfl (lv_at hl 0 rfl) ?_
    refine ro_V (As := [Value.ref (ad 0), Value.int (iI (i : Int))]) (rest := [Value.int (iI (i : Int)), Value.ref (aj 3)]) (v := some (Value.int (iI (ownJ R J i)))) ⟨hx, hb, hml, hown, hts⟩ (c_X1_ownReason l g τ ad aj R (u2 J 3 (owF R J i)) hI (HB_row hjb (owF_r (R := R) hjb i)) i (by omega)) gX1_blame_X1_ownReason cd_X1_ownReason rfl rfl ⟨rfl, rfl⟩ ⟨Nat.le_of_ble_eq_true rfl, Nat.le_of_ble_eq_true rfl⟩ hK hP 0 rfl rfl rfl rfl hl rfl (Nat.le_of_ble_eq_true rfl) dX1_blame_21 ⟨Nat.le_of_ble_eq_true rfl, Nat.le_of_ble_eq_true rfl⟩ ?_
    refine tl_some ?_
    refine zi_ast hx hb hK hP hD hS 3 (f := (owF R J i)) (rfl) (i) (rfl) (by omega) (by decide) dX1_blame_24 (wo := juW aj (u2 (u2 J 3 (owF R J i)) 3 (updZ (owF R J i) i (ownJ R J i))) τ ++ stW ad R τ) (s_j3 _ _ _ _ _) (fun H locs hP hD hS => ?_)
    have hJ := va_left hP
    have hT := va_right hP
    refine zi_inc (v := ((i + 1 : Nat) : Int)) (lv' := [(2, Value.int (iI ((i + 1 : Nat) : Int))), (0, Value.ref (aj 0)), (1, Value.ref (ad 0))]) hx hb dX1_blame_25 hl (k := 0) rfl (by omega) (by decide) rfl (fun ls hl => ?_)
    refine lv_goto (tgt := 2) hx hb dX1_blame_28 (by decide) ?_
    have hb_9 : (((i + 1) : Nat) : Int) = ((i + 1 : Nat) : Int) := by first | rfl | omega | (simp [c_2]; done)
    have hw_10 : juW aj (u2 (u2 J 3 (owF R J i)) 3 (updZ (owF R J i) i (ownJ R J i))) τ ++ stW ad R τ = juW aj (u2 J 3 (owF R J (i + 1))) τ ++ stW ad R τ := (congrArg (fun z => juW aj z τ ++ stW ad R τ) (u2_u2 J 3 (owF R J i) (updZ (owF R J i) i (ownJ R J i)))).trans (congrArg (fun z => juW aj (u2 J 3 z) τ ++ stW ad R τ) (owF_s R J i))
    rw [hw_10] at hP hD
    exact ih_2 hl_i (trivial) _ _ _ hP hD hS (lv_eq (lv_sub hl [0, 1, 2] rfl) (by show [(2, Value.int (iI (((i + 1) : Nat) : Int))), (0, Value.ref (aj 0)), (1, Value.ref (ad 0))] = [(2, Value.int (iI ((i + 1 : Nat) : Int))), (0, Value.ref (aj 0)), (1, Value.ref (ad 0))]; rw [hb_9]))

theorem cd_X1_look : cd yX1_look 1 := by decide +kernel
set_option maxHeartbeats 1000000 in
set_option maxRecDepth 100000 in
theorem c_X1_look (l : Launch) (g : va_G) (τ : Nat → ClassId) (ad aj : Nat → Nat) (R J : Nat → Nat → Int) (hI : SI R) (hjb : HB J) (hjs : JSp J)  : Met l yX1_look wsX1_look { frames := 4, cells := 0, slots := 0, locals := 84 } (va_Pc [Value.ref (aj 0), Value.ref (ad 0)] (rwW g τ (juW aj J τ ++ stW ad R τ))) (rwQ g (fun v w => v = none ∧ w = juW aj (seeJ R J) τ ++ stW ad R τ) (inW (juW aj J τ ++ stW ad R τ))) 0 0 (inW (juW aj J τ ++ stW ad R τ)) := by
  have hB := hI.hB
  have hr0 := hI.r
  have hd0 := hI.d
  have hs0 := hI.s
  have hN := hI.hN
  refine rwMet (cc := cX1_look) (maxL := 2) (ret := none) (lv := [(0, Value.ref (aj 0)), (1, Value.ref (ad 0))]) (by decide) rfl (Nat.le_of_ble_eq_true rfl) rfl ?_
  intro p e s m below meth c hx hb hr hml hts hown hlocks A H hP hD hS hK ls hl
  have hJ := va_left hP
  have hT := va_right hP
  refine lv_aload_n hx hb dX1_look_0 rfl (lv_at hl 0 rfl) ?_
  refine lv_aload_n hx hb dX1_look_1 rfl (lv_at hl 1 rfl) ?_
  refine rw_V (As := [Value.ref (ad 0)]) (rest := []) ⟨hx, hb, hml, hown, hts⟩ (c_X1_date l g τ ad aj R J hI hjb) gX1_look_X1_date cd_X1_date rfl rfl ⟨rfl, rfl⟩ ⟨Nat.le_of_ble_eq_true rfl, Nat.le_of_ble_eq_true rfl⟩ hK hP hD hS [0, 1, 2, 3, 4, 5, 6, 7, 8, 9, 10, 11, 12, 13, 14, 15, 16, 17, 18, 19, 20, 21, 22, 23, 24, 25, 26, 27, 28, 29, 30, 31, 32, 33, 34, 35, 36, 37, 38, 39, 40, 41, 42, 43, 44, 45, 46, 47, 48, 49, 50, 51, 52, 53, 54, 55, 56, 57] (full_C _ _ _ _ _) ((by decide)) 0 rfl rfl rfl rfl hl rfl (Nat.le_of_ble_eq_true rfl) dX1_look_2 ⟨Nat.le_of_ble_eq_true rfl, Nat.le_of_ble_eq_true rfl⟩ (fun v w h => by rw [h.2]; exact f_ju _ _ _ _ _ _) (fun v w1 H locs hZ hP hD hS => ?_)
  obtain ⟨rfl, rfl⟩ := hZ
  rw [full_r] at hP hD
  have hP : va_P g vwCl (juW aj (dateJ R J (R 10 0).toNat) τ ++ stW ad R τ) H := hP
  have hD : va_D A (juW aj (dateJ R J (R 10 0).toNat) τ ++ stW ad R τ) := hD
  have hJ := va_left hP
  have hT := va_right hP
  refine tl_none ?_
  refine lv_aload_n hx hb dX1_look_5 rfl (lv_at hl 0 rfl) ?_
  refine lv_aload_n hx hb dX1_look_6 rfl (lv_at hl 1 rfl) ?_
  refine rw_V (As := [Value.ref (ad 0)]) (rest := []) ⟨hx, hb, hml, hown, hts⟩ (c_X1_blame l g τ ad aj R (dateJ R J (R 10 0).toNat) hI (date_ok hI hjb hjs (R 10 0).toNat).1 (date_ok hI hjb hjs (R 10 0).toNat).2) gX1_look_X1_blame cd_X1_blame rfl rfl ⟨rfl, rfl⟩ ⟨Nat.le_of_ble_eq_true rfl, Nat.le_of_ble_eq_true rfl⟩ hK hP hD hS [0, 1, 2, 3, 4, 5, 6, 7, 8, 9, 10, 11, 12, 13, 14, 15, 16, 17, 18, 19, 20, 21, 22, 23, 24, 25, 26, 27, 28, 29, 30, 31, 32, 33, 34, 35, 36, 37, 38, 39, 40, 41, 42, 43, 44, 45, 46, 47, 48, 49, 50, 51, 52, 53, 54, 55, 56, 57] (full_C _ _ _ _ _) ((by decide)) 0 rfl rfl rfl rfl hl rfl (Nat.le_of_ble_eq_true rfl) dX1_look_7 ⟨Nat.le_of_ble_eq_true rfl, Nat.le_of_ble_eq_true rfl⟩ (fun v w h => by rw [h.2]; exact f_ju _ _ _ _ _ _) (fun v w1 H locs hZ hP hD hS => ?_)
  obtain ⟨rfl, rfl⟩ := hZ
  rw [full_r] at hP hD
  have hP : va_P g vwCl (juW aj (blameJ R (dateJ R J (R 10 0).toNat)) τ ++ stW ad R τ) H := hP
  have hD : va_D A (juW aj (blameJ R (dateJ R J (R 10 0).toNat)) τ ++ stW ad R τ) := hD
  have hJ := va_left hP
  have hT := va_right hP
  refine tl_none ?_
  exact rw_vret hx hb hr hlocks hP hS (⟨rfl, rfl⟩) dX1_look_10

theorem cd_X1_fakesIn : cd yX1_fakesIn 1 := by decide +kernel
set_option maxHeartbeats 1000000 in
set_option maxRecDepth 100000 in
theorem c_X1_fakesIn (l : Launch) (g : va_G) (τ : Nat → ClassId) (ad aj : Nat → Nat) (R J : Nat → Nat → Int) (hI : SI R) (hjb : HB J) (hjs : JSp J)  : Met l yX1_fakesIn wsX1_fakesIn { frames := 5, cells := 0, slots := 0, locals := 105 } (va_Pc [Value.ref (aj 0), Value.ref (ad 0)] (rwW g τ (juW aj J τ ++ stW ad R τ))) (rwQ g (fun v w => v = some (Value.int (iI (cnt (jF (seeJ R J)) (R 10 0).toNat))) ∧ w = juW aj (seeJ R J) τ ++ stW ad R τ) (inW (juW aj J τ ++ stW ad R τ))) 0 0 (inW (juW aj J τ ++ stW ad R τ)) := by
  have hB := hI.hB
  have hr0 := hI.r
  have hd0 := hI.d
  have hs0 := hI.s
  have hN := hI.hN
  refine rwMet (cc := cX1_fakesIn) (maxL := 2) (ret := (some .int)) (lv := [(0, Value.ref (aj 0)), (1, Value.ref (ad 0))]) (by decide) rfl (Nat.le_of_ble_eq_true rfl) rfl ?_
  intro p e s m below meth c hx hb hr hml hts hown hlocks A H hP hD hS hK ls hl
  have hJ := va_left hP
  have hT := va_right hP
  refine lv_aload_n hx hb dX1_fakesIn_0 rfl (lv_at hl 0 rfl) ?_
  refine lv_aload_n hx hb dX1_fakesIn_1 rfl (lv_at hl 1 rfl) ?_
  refine rw_V (As := [Value.ref (ad 0)]) (rest := []) ⟨hx, hb, hml, hown, hts⟩ (c_X1_look l g τ ad aj R J hI hjb hjs) gX1_fakesIn_X1_look cd_X1_look rfl rfl ⟨rfl, rfl⟩ ⟨Nat.le_of_ble_eq_true rfl, Nat.le_of_ble_eq_true rfl⟩ hK hP hD hS [0, 1, 2, 3, 4, 5, 6, 7, 8, 9, 10, 11, 12, 13, 14, 15, 16, 17, 18, 19, 20, 21, 22, 23, 24, 25, 26, 27, 28, 29, 30, 31, 32, 33, 34, 35, 36, 37, 38, 39, 40, 41, 42, 43, 44, 45, 46, 47, 48, 49, 50, 51, 52, 53, 54, 55, 56, 57] (full_C _ _ _ _ _) ((by decide)) 0 rfl rfl rfl rfl hl rfl (Nat.le_of_ble_eq_true rfl) dX1_fakesIn_2 ⟨Nat.le_of_ble_eq_true rfl, Nat.le_of_ble_eq_true rfl⟩ (fun v w h => by rw [h.2]; exact f_ju _ _ _ _ _ _) (fun v w1 H locs hZ hP hD hS => ?_)
  obtain ⟨rfl, rfl⟩ := hZ
  rw [full_r] at hP hD
  have hP : va_P g vwCl (juW aj (seeJ R J) τ ++ stW ad R τ) H := hP
  have hD : va_D A (juW aj (seeJ R J) τ ++ stW ad R τ) := hD
  have hJ := va_left hP
  have hT := va_right hP
  refine tl_none ?_
  refine lv_aload_n hx hb dX1_fakesIn_5 rfl (lv_at hl 0 rfl) ?_
  refine lv_aload_n hx hb dX1_fakesIn_6 rfl (lv_at hl 1 rfl) ?_
  refine ro_V (As := [Value.ref (ad 0)]) (rest := []) (v := some (Value.int (iI (cnt (jF (seeJ R J)) (R 10 0).toNat)))) ⟨hx, hb, hml, hown, hts⟩ (c_X1_fakes l g τ ad aj R (seeJ R J) hI (see_ok hI hjb hjs).1) gX1_fakesIn_X1_fakes cd_X1_fakes rfl rfl ⟨rfl, rfl⟩ ⟨Nat.le_of_ble_eq_true rfl, Nat.le_of_ble_eq_true rfl⟩ hK hP 0 rfl rfl rfl rfl hl rfl (Nat.le_of_ble_eq_true rfl) dX1_fakesIn_7 ⟨Nat.le_of_ble_eq_true rfl, Nat.le_of_ble_eq_true rfl⟩ ?_
  refine tl_some ?_
  exact rw_iret hx hb hr hlocks hP hS (⟨rfl, rfl⟩) dX1_fakesIn_10
