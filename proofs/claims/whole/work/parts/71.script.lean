/-! scripts and simulations: what they answer -/
def qSimN (R : Nat → Nat → Int) (x : Int64) (n : Nat) : Int := 1000 * (qSim R x n) 10 0 + 10 * rFks (qSim R x n) ((qSim R x n) 10 0).toNat + rBad (qSim R x n) 6
theorem f_m3 (ma : Nat → Nat) (a b : Nat) (t t2 : ClassId) (N N2 : Nat) (M M2 f f2 p p2 : Nat → Int) : ([moO ma M, arC a t N f, arC b t2 N2 p] : va_W).map Prod.fst = ([moO ma M2, arC a t N f2, arC b t2 N2 p2] : va_W).map Prod.fst := rfl
theorem qX_s (x : Int64) (i : Nat) : qX x i * 6364136223846793005 + 1442695040888963407 = qX x (i + 1) := by rw [qX]
theorem qT_s (y : Int64) : (y.toUInt64 >>> ((33 : Int32).toInt64.toUInt64 &&& Int64.toUInt64 63)).toInt64.toInt32 = iI (qT y) := by
  unfold qT
  exact (iI_as _).symm
theorem qGrp_r (n : Nat) (z : Int) (i : Nat) : 0 ≤ qGrp n z i ∧ qGrp n z i < 1000000 := by
  unfold qGrp
  omega
theorem zdiv_r {a b : Int} (ha : 0 ≤ a ∧ a < 9223372036854775808) (hb : 1 ≤ b) : 0 ≤ a / b ∧ a / b < 9223372036854775808 := by
  have h1 := Int.ediv_nonneg ha.1 (by omega : 0 ≤ b)
  have h2 := Int.ediv_le_self b ha.1
  omega

theorem cd_X10_runScript : cd yX10_runScript 2 := by decide +kernel
theorem in_X10_runScript_X10 : ∀ w ∈ wsX100, w ∈ wsX10_runScript := by decide +kernel
set_option maxHeartbeats 8000000 in
set_option maxRecDepth 100000 in
theorem c_X10_runScript (l : Launch) (g : va_G) (τ : Nat → ClassId) (ma : Nat → Nat) (M : Nat → Int) (R : Nat → Nat → Int) (hI : SI R) (T P0 : Nat → Int) (k1 : Int) (rk1 : -2147483648 ≤ k1 ∧ k1 < 2147483648) (z1 : Int) (hz1 : rngl z1)  : Met l yX10_runScript wsX10_runScript { frames := 11, cells := 0, slots := 0, locals := 264 } (va_Pc [Value.ref (ma 0), Value.int (iI k1), Value.long (iL z1)] (rwW g τ ([moO ma M, arC (ma 1) (τ 0) 291 (flR R), arC (ma 2) (τ 0) 291 T, arC (ma 17) (τ 0) 6 P0]))) (rwQ g (fun v w => ∃ (M2 T2 P2 : Nat → Int), M2 5 = M 5 ∧ M2 9 = M 9 ∧ w = [moO ma M2, arC (ma 1) (τ 0) 291 (flR R), arC (ma 2) (τ 0) 291 T2, arC (ma 17) (τ 0) 6 P2] ∧ ((¬ ((1 ≤ k1 ∧ k1 ≤ 3) ∧ 0 ≤ z1 ∧ z1 ≤ 10 ^ (6 * k1.toNat) - 1) ∧ v = some (Value.int (iI 0)) ∧ M2 0 = 1) ∨ (((1 ≤ k1 ∧ k1 ≤ 3) ∧ 0 ≤ z1 ∧ z1 ≤ 10 ^ (6 * k1.toNat) - 1) ∧ v = some (Value.int (iI (qRunN R k1.toNat z1))) ∧ M2 0 = 0))) (inW ([moO ma M, arC (ma 1) (τ 0) 291 (flR R), arC (ma 2) (τ 0) 291 T, arC (ma 17) (τ 0) 6 P0]))) 0 0 (inW ([moO ma M, arC (ma 1) (τ 0) 291 (flR R), arC (ma 2) (τ 0) 291 T, arC (ma 17) (τ 0) 6 P0])) := by
  have hB := hI.hB
  have hr0 := hI.r
  have hd0 := hI.d
  have hs0 := hI.s
  have hz2 : -9223372036854775808 ≤ z1 ∧ z1 < 9223372036854775808 := hz1
  refine rwMet (cc := cX10_runScript) (maxL := 5) (ret := (some .int)) (lv := [(0, Value.ref (ma 0)), (1, Value.int (iI k1)), (2, Value.long (iL z1))]) (by decide) rfl (Nat.le_of_ble_eq_true rfl) rfl ?_
  intro p e s m below meth c hx hb hr hml hts hown hlocks A H hP hD hS hK ls hl
  refine lv_aload_n hx hb dX10_runScript_0 rfl (lv_at hl 0 rfl) ?_
  refine lv_iload_n hx hb dX10_runScript_1 rfl (lv_at hl 1 rfl) ?_
  refine lv_i2l (v := (iI k1).toInt64) hx hb dX10_runScript_2 rfl ?_
  refine cv_l (y := iL k1) (i2l_iL ⟨by omega, by omega⟩) ?_
  refine lv_lconst (v := 1) hx hb dX10_runScript_3 (by decide) ?_
  refine cv_l (y := iL 1) (by decide) ?_
  refine lv_ldc2 (v := 3) hx hb hown (hts _ (List.mem_of_getElem? (i := 1) rfl)) dX10_runScript_4 ?_
  refine cv_l (y := iL 3) (by decide) ?_
  refine ro_S (As := [Value.long (iL k1), Value.long (iL 1), Value.long (iL 3)]) (rest := [Value.ref (ma 0)]) (v := some (Value.int (iI (zB (decide (1 ≤ k1 ∧ k1 ≤ 3)))))) ⟨hx, hb, hml, hown, hts⟩ (c_X10_in l g τ k1 1 3 ⟨by omega, by omega⟩ ⟨by omega, by omega⟩ ⟨by omega, by omega⟩) gX10_runScript_X10_in cd_X10_in rfl ⟨rfl, rfl⟩ ⟨Nat.le_of_ble_eq_true rfl, Nat.le_of_ble_eq_true rfl⟩ hK (fun _ _ h => by cases h) rfl hl rfl (Nat.le_of_ble_eq_true rfl) dX10_runScript_7 ⟨Nat.le_of_ble_eq_true rfl, Nat.le_of_ble_eq_true rfl⟩ ?_
  refine tl_some ?_
  refine zb_if_eq (tgt := 34) hx hb dX10_runScript_10 (by decide) (fun c_1 => ?_) (fun c_1 => ?_)
  · have cd_c_1 := of_decide_eq_false c_1
    refine lv_iconst (v := iI 1) hx hb dX10_runScript_34 (by decide) ?_
    refine rw_V (As := [Value.int (iI 1)]) (rest := []) ⟨hx, hb, hml, hown, hts⟩ (c_X10_refused l g τ ma M 1 ⟨by decide, by decide⟩) gX10_runScript_X10_refused cd_X10_refused rfl rfl ⟨rfl, rfl⟩ ⟨Nat.le_of_ble_eq_true rfl, Nat.le_of_ble_eq_true rfl⟩ hK hP hD hS [0] (rfl) (by decide) 0 rfl rfl rfl rfl hl rfl (Nat.le_of_ble_eq_true rfl) dX10_runScript_35 ⟨Nat.le_of_ble_eq_true rfl, Nat.le_of_ble_eq_true rfl⟩ (fun v w h => by rw [h.2]; rfl) (fun v w1 H locs hZ hP hD hS => ?_)
    obtain ⟨rfl, rfl⟩ := hZ
    have hP : va_P g vwCl ([moO ma (updZ M 0 1), arC (ma 1) (τ 0) 291 (flR R), arC (ma 2) (τ 0) 291 T, arC (ma 17) (τ 0) 6 P0]) H := hP
    have hD : va_D A ([moO ma (updZ M 0 1), arC (ma 1) (τ 0) 291 (flR R), arC (ma 2) (τ 0) 291 T, arC (ma 17) (τ 0) 6 P0]) := hD
    refine tl_some ?_
    refine cv_i (y := iI 1) (congrArg iI (if_neg (by decide))) ?_
    refine zi_if_eq (tgt := 43) hx hb ⟨by decide, by decide⟩ dX10_runScript_38 (by decide) (fun c_2 => ?_) (fun c_2 => ?_)
    · exact absurd c_2 (by decide)
    refine lv_iconst (v := iI 0) hx hb dX10_runScript_41 (by decide) ?_
    exact rw_iret hx hb hr hlocks hP hS (⟨(updZ M 0 1), _, _, by show (M 5) = M 5; first | rfl | omega, by show (M 9) = M 9; first | rfl | omega, rfl, Or.inl ⟨by omega, rfl, by show 1 = 1; first | rfl | omega⟩⟩) dX10_runScript_42
  · have cd_c_1 := of_decide_eq_true c_1
    have hpw := pw6 (k := 6 * k1.toNat) (by omega)
    refine lv_lload_n hx hb dX10_runScript_13 rfl (lv_at hl 2 rfl) ?_
    refine lv_lconst (v := 0) hx hb dX10_runScript_14 (by decide) ?_
    refine cv_l (y := iL 0) (by decide) ?_
    refine lv_bipush (v := iI 6) hx hb dX10_runScript_15 (by decide) ?_
    refine lv_iload_n hx hb dX10_runScript_17 rfl (lv_at hl 1 rfl) ?_
    refine zi_mul hx hb dX10_runScript_18 ?_
    refine cv_i (y := iI ((6 * k1.toNat : Nat) : Int)) (congrArg iI (by omega)) ?_
    refine ro_S (As := [Value.int (iI ((6 * k1.toNat : Nat) : Int))]) (rest := [Value.long (iL 0), Value.long (iL z1), Value.ref (ma 0)]) (v := some (Value.long (iL ((10 : Int) ^ (6 * k1.toNat))))) ⟨hx, hb, hml, hown, hts⟩ (c_X10_tens l g τ (6 * k1.toNat) (by omega)) gX10_runScript_X10_tens cd_X10_tens rfl ⟨rfl, rfl⟩ ⟨Nat.le_of_ble_eq_true rfl, Nat.le_of_ble_eq_true rfl⟩ hK (fun _ _ h => by cases h) rfl hl rfl (Nat.le_of_ble_eq_true rfl) dX10_runScript_19 ⟨Nat.le_of_ble_eq_true rfl, Nat.le_of_ble_eq_true rfl⟩ ?_
    refine tl_some ?_
    refine lv_lconst (v := 1) hx hb dX10_runScript_22 (by decide) ?_
    refine cv_l (y := iL 1) (by decide) ?_
    refine lv_lsub hx hb dX10_runScript_23 ?_
    refine cv_l (y := iL (((10 : Int) ^ (6 * k1.toNat)) - 1)) (iL_sub _ _) ?_
    refine ro_S (As := [Value.long (iL z1), Value.long (iL 0), Value.long (iL (((10 : Int) ^ (6 * k1.toNat)) - 1))]) (rest := [Value.ref (ma 0)]) (v := some (Value.int (iI (zB (decide (0 ≤ z1 ∧ z1 ≤ (((10 : Int) ^ (6 * k1.toNat)) - 1))))))) ⟨hx, hb, hml, hown, hts⟩ (c_X10_in l g τ z1 0 (((10 : Int) ^ (6 * k1.toNat)) - 1) ⟨by omega, by omega⟩ ⟨by omega, by omega⟩ ⟨by omega, by omega⟩) gX10_runScript_X10_in cd_X10_in rfl ⟨rfl, rfl⟩ ⟨Nat.le_of_ble_eq_true rfl, Nat.le_of_ble_eq_true rfl⟩ hK (fun _ _ h => by cases h) rfl hl rfl (Nat.le_of_ble_eq_true rfl) dX10_runScript_24 ⟨Nat.le_of_ble_eq_true rfl, Nat.le_of_ble_eq_true rfl⟩ ?_
    refine tl_some ?_
    refine zb_if_eq (tgt := 34) hx hb dX10_runScript_27 (by decide) (fun c_3 => ?_) (fun c_3 => ?_)
    · have cd_c_3 := of_decide_eq_false c_3
      refine lv_iconst (v := iI 1) hx hb dX10_runScript_34 (by decide) ?_
      refine rw_V (As := [Value.int (iI 1)]) (rest := []) ⟨hx, hb, hml, hown, hts⟩ (c_X10_refused l g τ ma M 1 ⟨by decide, by decide⟩) gX10_runScript_X10_refused cd_X10_refused rfl rfl ⟨rfl, rfl⟩ ⟨Nat.le_of_ble_eq_true rfl, Nat.le_of_ble_eq_true rfl⟩ hK hP hD hS [0] (rfl) (by decide) 0 rfl rfl rfl rfl hl rfl (Nat.le_of_ble_eq_true rfl) dX10_runScript_35 ⟨Nat.le_of_ble_eq_true rfl, Nat.le_of_ble_eq_true rfl⟩ (fun v w h => by rw [h.2]; rfl) (fun v w1 H locs hZ hP hD hS => ?_)
      obtain ⟨rfl, rfl⟩ := hZ
      have hP : va_P g vwCl ([moO ma (updZ M 0 1), arC (ma 1) (τ 0) 291 (flR R), arC (ma 2) (τ 0) 291 T, arC (ma 17) (τ 0) 6 P0]) H := hP
      have hD : va_D A ([moO ma (updZ M 0 1), arC (ma 1) (τ 0) 291 (flR R), arC (ma 2) (τ 0) 291 T, arC (ma 17) (τ 0) 6 P0]) := hD
      refine tl_some ?_
      refine cv_i (y := iI 1) (congrArg iI (if_neg (by decide))) ?_
      refine zi_if_eq (tgt := 43) hx hb ⟨by decide, by decide⟩ dX10_runScript_38 (by decide) (fun c_4 => ?_) (fun c_4 => ?_)
      · exact absurd c_4 (by decide)
      refine lv_iconst (v := iI 0) hx hb dX10_runScript_41 (by decide) ?_
      exact rw_iret hx hb hr hlocks hP hS (⟨(updZ M 0 1), _, _, by show (M 5) = M 5; first | rfl | omega, by show (M 9) = M 9; first | rfl | omega, rfl, Or.inl ⟨by omega, rfl, by show 1 = 1; first | rfl | omega⟩⟩) dX10_runScript_42
    · have cd_c_3 := of_decide_eq_true c_3
      refine lv_iconst (v := iI 0) hx hb dX10_runScript_30 (by decide) ?_
      refine lv_goto (tgt := 35) hx hb dX10_runScript_31 (by decide) ?_
      refine rw_V (As := [Value.int (iI 0)]) (rest := []) ⟨hx, hb, hml, hown, hts⟩ (c_X10_refused l g τ ma M 0 ⟨by decide, by decide⟩) gX10_runScript_X10_refused cd_X10_refused rfl rfl ⟨rfl, rfl⟩ ⟨Nat.le_of_ble_eq_true rfl, Nat.le_of_ble_eq_true rfl⟩ hK hP hD hS [0] (rfl) (by decide) 0 rfl rfl rfl rfl hl rfl (Nat.le_of_ble_eq_true rfl) dX10_runScript_35 ⟨Nat.le_of_ble_eq_true rfl, Nat.le_of_ble_eq_true rfl⟩ (fun v w h => by rw [h.2]; rfl) (fun v w1 H locs hZ hP hD hS => ?_)
      obtain ⟨rfl, rfl⟩ := hZ
      have hP : va_P g vwCl ([moO ma (updZ M 0 0), arC (ma 1) (τ 0) 291 (flR R), arC (ma 2) (τ 0) 291 T, arC (ma 17) (τ 0) 6 P0]) H := hP
      have hD : va_D A ([moO ma (updZ M 0 0), arC (ma 1) (τ 0) 291 (flR R), arC (ma 2) (τ 0) 291 T, arC (ma 17) (τ 0) 6 P0]) := hD
      refine tl_some ?_
      refine cv_i (y := iI 0) (congrArg iI (if_pos rfl)) ?_
      refine zi_if_eq (tgt := 43) hx hb ⟨by decide, by decide⟩ dX10_runScript_38 (by decide) (fun c_5 => ?_) (fun c_5 => ?_)
      · skip
        obtain ⟨n1, rfl⟩ := Int.eq_ofNat_of_zero_le (show 0 ≤ k1 by omega)
        refine lv_aload_n hx hb dX10_runScript_43 rfl (lv_at hl 0 rfl) ?_
        refine va_get (D := g) (ci := 10) (v := Value.ref (ma 1)) (C := RX10) (T := TX10) (N := 18) hx hb hts in_X10_runScript_X10 hown hK.1 hP 0 (rfl) rfl 1 (by decide) (hts _ (List.mem_of_getElem? (i := 2) rfl) : (Cond.fieldLink RX10 7 "CordSealsModel" "now" "[I").before _ s = true) (fun _ h9 => h9) rfl dX10_runScript_44 ?_
        refine lv_aload_n hx hb dX10_runScript_47 rfl (lv_at hl 0 rfl) ?_
        refine va_get (D := g) (ci := 10) (v := Value.ref (ma 2)) (C := RX10) (T := TX10) (N := 18) hx hb hts in_X10_runScript_X10 hown hK.1 hP 0 (rfl) rfl 2 (by decide) (hts _ (List.mem_of_getElem? (i := 3) rfl) : (Cond.fieldLink RX10 13 "CordSealsModel" "trial" "[I").before _ s = true) (fun _ h9 => h9) rfl dX10_runScript_48 ?_
        refine rw_S (As := [Value.ref (ma 1), Value.ref (ma 2)]) (rest := []) ⟨hx, hb, hml, hown, hts⟩ (c_X10_copy l g τ (ma 1) (ma 2) R T) gX10_runScript_X10_copy cd_X10_copy rfl ⟨rfl, rfl⟩ ⟨Nat.le_of_ble_eq_true rfl, Nat.le_of_ble_eq_true rfl⟩ hK hP hD hS [1, 2] (rfl) (by decide) rfl hl rfl (Nat.le_of_ble_eq_true rfl) dX10_runScript_51 ⟨Nat.le_of_ble_eq_true rfl, Nat.le_of_ble_eq_true rfl⟩ (fun v w h => by rw [h.2]; rfl) (fun v w1 H locs hZ hP hD hS => ?_)
        obtain ⟨rfl, rfl⟩ := hZ
        have hP : va_P g vwCl ([moO ma (updZ M 0 0), arC (ma 1) (τ 0) 291 (flR R), arC (ma 2) (τ 0) 291 (flR R), arC (ma 17) (τ 0) 6 P0]) H := hP
        have hD : va_D A ([moO ma (updZ M 0 0), arC (ma 1) (τ 0) 291 (flR R), arC (ma 2) (τ 0) 291 (flR R), arC (ma 17) (τ 0) 6 P0]) := hD
        refine tl_none ?_
        refine lv_iconst (v := iI 0) hx hb dX10_runScript_54 (by decide) ?_
        refine lv_istore (lv' := [(4, Value.int (iI 0)), (0, Value.ref (ma 0)), (1, Value.int (iI (n1 : Int))), (2, Value.long (iL z1))]) hx hb dX10_runScript_55 hl (by decide) rfl (fun ls hl => ?_)
        have hP : va_P g vwCl ([moO ma (updZ M 0 0), arC (ma 1) (τ 0) 291 (flR R), arC (ma 2) (τ 0) 291 (flR (qRun R n1 z1 0)), arC (ma 17) (τ 0) 6 P0]) H := by exact hP
        have hD : va_D A ([moO ma (updZ M 0 0), arC (ma 1) (τ 0) 291 (flR R), arC (ma 2) (τ 0) 291 (flR (qRun R n1 z1 0)), arC (ma 17) (τ 0) 6 P0]) := by exact hD
        refine lp_upX (fun i => [(4, Value.int (iI (i : Int))), (0, Value.ref (ma 0)), (1, Value.int (iI (n1 : Int))), (2, Value.long (iL z1))]) (fun i X => [moO ma X.1, arC (ma 1) (τ 0) 291 (flR R), arC (ma 2) (τ 0) 291 (flR (qRun R n1 z1 i)), arC (ma 17) (τ 0) 6 X.2]) (fun i X => AG (updZ M 0 0) X.1 ∧ ∀ j, j < i → qRunP R n1 z1 j = false) (n1) (0) (updZ M 0 0, P0) (by omega) hP hD hS (⟨AG_r _, fun j hj => by omega⟩) (lv_eq (lv_sub hl [0, 1, 2, 3] rfl) (by show [(4, Value.int (iI 0)), (0, Value.ref (ma 0)), (1, Value.int (iI (n1 : Int))), (2, Value.long (iL z1))] = [(4, Value.int (iI 0)), (0, Value.ref (ma 0)), (1, Value.int (iI (n1 : Int))), (2, Value.long (iL z1))]; rfl)) (fun i h0_i hi_i ⟨M_6, P_M_6⟩ hJ_i ih_57 H locs hP hD hS ls hl => ?_)
        have hP : va_P g vwCl ([moO ma M_6, arC (ma 1) (τ 0) 291 (flR R), arC (ma 2) (τ 0) 291 (flR (qRun R n1 z1 i)), arC (ma 17) (τ 0) 6 P_M_6]) H := hP
        have hD : va_D A ([moO ma M_6, arC (ma 1) (τ 0) 291 (flR R), arC (ma 2) (τ 0) 291 (flR (qRun R n1 z1 i)), arC (ma 17) (τ 0) 6 P_M_6]) := hD
        have hJ_i : AG (updZ M 0 0) M_6 ∧ ∀ j, j < i → qRunP R n1 z1 j = false := hJ_i
        have hI_i := hJ_i.2
        have hfM_6_0 : M_6 0 = 0 := hJ_i.1 0 (by decide)
        have hfM_6_5 : M_6 5 = M 5 := hJ_i.1 5 (by decide)
        have hfM_6_9 : M_6 9 = M 9 := hJ_i.1 9 (by decide)
        have hfM_6_10 : M_6 10 = M 10 := hJ_i.1 10 (by decide)
        have hfM_6_11 : M_6 11 = M 11 := hJ_i.1 11 (by decide)
        have hfM_6_12 : M_6 12 = M 12 := hJ_i.1 12 (by decide)
        refine lv_iload hx hb dX10_runScript_57 (lv_at hl 0 rfl) ?_
        refine lv_iload_n hx hb dX10_runScript_59 rfl (lv_at hl 2 rfl) ?_
        refine zi_icmp_ge (tgt := 98) hx hb ⟨by omega, by omega⟩ ⟨by omega, by omega⟩ dX10_runScript_60 (by decide) (fun c_7 => ?_) (fun c_7 => ?_)
        · have _ := c_7
          have h0_i : i = n1 := by omega
          refine lv_iconst (v := iI (-1)) hx hb dX10_runScript_98 (by decide) ?_
          exact rw_iret hx hb hr hlocks hP hS (⟨M_6, _, _, by show (M_6 5) = M 5; first | rfl | omega, by show (M_6 9) = M 9; first | rfl | omega, rfl, Or.inr ⟨⟨⟨by omega, by omega⟩, by omega, by omega⟩, by (have hf : fst (qRunP R n1 z1) n1 = n1 := fst_none (fun j hj => hI_i j (by omega))); show _ = some (Value.int (iI (qRunN R n1 z1))); rw [qRunN, hf, if_neg (by omega)], by show (M_6 0) = 0; first | rfl | omega⟩⟩) dX10_runScript_99
        · have _ := c_7
          have hl_i : i < n1 := by omega
          refine lv_aload_n hx hb dX10_runScript_63 rfl (lv_at hl 1 rfl) ?_
          refine lv_lload_n hx hb dX10_runScript_64 rfl (lv_at hl 3 rfl) ?_
          refine lv_bipush (v := iI 6) hx hb dX10_runScript_65 (by decide) ?_
          refine lv_iload_n hx hb dX10_runScript_67 rfl (lv_at hl 2 rfl) ?_
          refine lv_iconst (v := iI 1) hx hb dX10_runScript_68 (by decide) ?_
          refine zi_sub hx hb dX10_runScript_69 ?_
          refine lv_iload hx hb dX10_runScript_70 (lv_at hl 0 rfl) ?_
          refine zi_sub hx hb dX10_runScript_72 ?_
          refine zi_mul hx hb dX10_runScript_73 ?_
          refine cv_i (y := iI ((6 * (n1 - 1 - i) : Nat) : Int)) (congrArg iI (by omega)) ?_
          refine ro_S (As := [Value.int (iI ((6 * (n1 - 1 - i) : Nat) : Int))]) (rest := [Value.long (iL z1), Value.ref (ma 0)]) (v := some (Value.long (iL ((10 : Int) ^ (6 * (n1 - 1 - i)))))) ⟨hx, hb, hml, hown, hts⟩ (c_X10_tens l g τ (6 * (n1 - 1 - i)) (by omega)) gX10_runScript_X10_tens cd_X10_tens rfl ⟨rfl, rfl⟩ ⟨Nat.le_of_ble_eq_true rfl, Nat.le_of_ble_eq_true rfl⟩ hK (fun _ _ h => by cases h) rfl hl rfl (Nat.le_of_ble_eq_true rfl) dX10_runScript_74 ⟨Nat.le_of_ble_eq_true rfl, Nat.le_of_ble_eq_true rfl⟩ ?_
          refine tl_some ?_
          have hpd := pw6 (k := 6 * (n1 - 1 - i)) (by omega)
          refine lv_ldiv hx hb dX10_runScript_77 (iL_ne ⟨by omega, by omega⟩) ?_
          refine cv_l (y := iL (z1 / ((10 : Int) ^ (6 * (n1 - 1 - i))))) (iL_div ⟨by omega, by omega⟩ ⟨by omega, by omega⟩) ?_
          have hdv := zdiv_r (a := z1) (b := (10 : Int) ^ (6 * (n1 - 1 - i))) ⟨by omega, by omega⟩ hpd.1
          refine lv_ldc2 (v := 1000000) hx hb hown (hts _ (List.mem_of_getElem? (i := 4) rfl)) dX10_runScript_78 ?_
          refine cv_l (y := iL 1000000) (by decide) ?_
          refine lv_lrem hx hb dX10_runScript_81 (iL_ne ⟨by omega, by omega⟩) ?_
          refine cv_l (y := iL ((z1 / ((10 : Int) ^ (6 * (n1 - 1 - i)))) % 1000000)) (iL_rem ⟨by omega, by omega⟩ ⟨by omega, by omega⟩) ?_
          refine lv_l2i (v := iI ((z1 / ((10 : Int) ^ (6 * (n1 - 1 - i)))) % 1000000)) hx hb dX10_runScript_82 (l2i_iL _) ?_
          refine cv_i (y := iI (qGrp n1 z1 i)) (congrArg iI rfl) ?_
          refine rw_V (As := [Value.int (iI (qGrp n1 z1 i))]) (rest := []) ⟨hx, hb, hml, hown, hts⟩ (c_X10_command l g τ ma M_6 (qRun R n1 z1 i) (SI_run hI n1 z1 i) P_M_6 (qGrp n1 z1 i) (qGrp_r n1 z1 i)) gX10_runScript_X10_command cd_X10_command rfl rfl ⟨rfl, rfl⟩ ⟨Nat.le_of_ble_eq_true rfl, Nat.le_of_ble_eq_true rfl⟩ hK hP hD hS [0, 2, 3] (rfl) (by decide) 0 rfl rfl rfl rfl hl rfl (Nat.le_of_ble_eq_true rfl) dX10_runScript_83 ⟨Nat.le_of_ble_eq_true rfl, Nat.le_of_ble_eq_true rfl⟩ (fun v w h => by obtain ⟨-, M9, P9, -, rfl⟩ := h; rfl) (fun v w1 H locs hZ hP hD hS => ?_)
          obtain ⟨rfl, M_8, P_M_8, hgM_8, rfl⟩ := hZ
          have hP : va_P g vwCl ([moO ma M_8, arC (ma 1) (τ 0) 291 (flR R), arC (ma 2) (τ 0) 291 (flR ((qCmd (qRun R n1 z1 i) (qGrp n1 z1 i)).2)), arC (ma 17) (τ 0) 6 P_M_8]) H := hP
          have hD : va_D A ([moO ma M_8, arC (ma 1) (τ 0) 291 (flR R), arC (ma 2) (τ 0) 291 (flR ((qCmd (qRun R n1 z1 i) (qGrp n1 z1 i)).2)), arC (ma 17) (τ 0) 6 P_M_8]) := hD
          have hfM_8_0 : M_8 0 = M_6 0 := hgM_8 0 (by decide)
          have hfM_8_5 : M_8 5 = M_6 5 := hgM_8 5 (by decide)
          have hfM_8_9 : M_8 9 = M_6 9 := hgM_8 9 (by decide)
          refine tl_some ?_
          refine zb_if_ne (tgt := 92) hx hb dX10_runScript_86 (by decide) (fun c_9 => ?_) (fun c_9 => ?_)
          · have _ := c_9
            refine zi_inc (v := ((i + 1 : Nat) : Int)) (lv' := [(4, Value.int (iI ((i + 1 : Nat) : Int))), (0, Value.ref (ma 0)), (1, Value.int (iI (n1 : Int))), (2, Value.long (iL z1))]) hx hb dX10_runScript_92 hl (k := 0) rfl (by omega) (by decide) rfl (fun ls hl => ?_)
            refine lv_goto (tgt := 57) hx hb dX10_runScript_95 (by decide) ?_
            have hb_10 : (((i + 1) : Nat) : Int) = ((i + 1 : Nat) : Int) := by first | rfl | omega | (simp [c_1, c_3, c_7, c_9]; done)
            have hw_11 : [moO ma M_8, arC (ma 1) (τ 0) 291 (flR R), arC (ma 2) (τ 0) 291 (flR ((qCmd (qRun R n1 z1 i) (qGrp n1 z1 i)).2)), arC (ma 17) (τ 0) 6 P_M_8] = [moO ma M_8, arC (ma 1) (τ 0) 291 (flR R), arC (ma 2) (τ 0) 291 (flR (qRun R n1 z1 (i + 1))), arC (ma 17) (τ 0) 6 P_M_8] := by rw [qRun]
            rw [hw_11] at hP hD
            exact ih_57 hl_i (M_8, P_M_8) (⟨AG_t (hJ_i.1) hgM_8, lt_step hI_i (by rw [qRunP, c_9]; rfl)⟩) _ _ _ hP hD hS (lv_eq (lv_sub hl [0, 1, 2, 3] rfl) (by show [(4, Value.int (iI (((i + 1) : Nat) : Int))), (0, Value.ref (ma 0)), (1, Value.int (iI (n1 : Int))), (2, Value.long (iL z1))] = [(4, Value.int (iI ((i + 1 : Nat) : Int))), (0, Value.ref (ma 0)), (1, Value.int (iI (n1 : Int))), (2, Value.long (iL z1))]; rw [hb_10]))
          · have _ := c_9
            refine lv_iload hx hb dX10_runScript_89 (lv_at hl 0 rfl) ?_
            exact rw_iret hx hb hr hlocks hP hS (⟨M_8, _, _, by show (M_8 5) = M 5; first | rfl | omega, by show (M_8 9) = M 9; first | rfl | omega, rfl, Or.inr ⟨⟨⟨by omega, by omega⟩, by omega, by omega⟩, by (have hf : fst (qRunP R n1 z1) n1 = i := fst_some hI_i (by (have hq9 : (qCmd (qRun R n1 z1 i) (qGrp n1 z1 i)).1 = false := by assumption); rw [qRunP, hq9]; rfl) hl_i); show _ = some (Value.int (iI (qRunN R n1 z1))); rw [qRunN, hf, if_pos hl_i], by show (M_8 0) = 0; first | rfl | omega⟩⟩) dX10_runScript_91
      · exact absurd c_5 (by decide)

theorem cd_X10_simulate : cd yX10_simulate 2 := by decide +kernel
theorem in_X10_simulate_X10 : ∀ w ∈ wsX100, w ∈ wsX10_simulate := by decide +kernel
set_option maxHeartbeats 8000000 in
set_option maxRecDepth 100000 in
theorem c_X10_simulate (l : Launch) (g : va_G) (τ : Nat → ClassId) (ma : Nat → Nat) (M : Nat → Int) (R : Nat → Nat → Int) (hI : SI R) (T P0 : Nat → Int) (x : Int64) (k1 : Int) (rk1 : -2147483648 ≤ k1 ∧ k1 < 2147483648)  : Met l yX10_simulate wsX10_simulate { frames := 11, cells := 0, slots := 0, locals := 261 } (va_Pc [Value.ref (ma 0), Value.long x, Value.int (iI k1)] (rwW g τ ([moO ma M, arC (ma 1) (τ 0) 291 (flR R), arC (ma 2) (τ 0) 291 T, arC (ma 17) (τ 0) 6 P0]))) (rwQ g (fun v w => ∃ (M2 T2 P2 : Nat → Int), M2 5 = M 5 ∧ M2 9 = M 9 ∧ w = [moO ma M2, arC (ma 1) (τ 0) 291 (flR R), arC (ma 2) (τ 0) 291 T2, arC (ma 17) (τ 0) 6 P2] ∧ ((¬ (1 ≤ k1 ∧ k1 ≤ 60) ∧ v = some (Value.int (iI 0)) ∧ M2 0 = 1) ∨ ((1 ≤ k1 ∧ k1 ≤ 60) ∧ v = some (Value.int (iI (qSimN R x k1.toNat))) ∧ M2 0 = 0))) (inW ([moO ma M, arC (ma 1) (τ 0) 291 (flR R), arC (ma 2) (τ 0) 291 T, arC (ma 17) (τ 0) 6 P0]))) 0 0 (inW ([moO ma M, arC (ma 1) (τ 0) 291 (flR R), arC (ma 2) (τ 0) 291 T, arC (ma 17) (τ 0) 6 P0])) := by
  have hB := hI.hB
  have hr0 := hI.r
  have hd0 := hI.d
  have hs0 := hI.s
  refine rwMet (cc := cX10_simulate) (maxL := 7) (ret := (some .int)) (lv := [(0, Value.ref (ma 0)), (1, Value.long x), (3, Value.int (iI k1))]) (by decide) rfl (Nat.le_of_ble_eq_true rfl) rfl ?_
  intro p e s m below meth c hx hb hr hml hts hown hlocks A H hP hD hS hK ls hl
  refine lv_aload_n hx hb dX10_simulate_0 rfl (lv_at hl 0 rfl) ?_
  refine lv_iload_n hx hb dX10_simulate_1 rfl (lv_at hl 2 rfl) ?_
  refine lv_i2l (v := (iI k1).toInt64) hx hb dX10_simulate_2 rfl ?_
  refine cv_l (y := iL k1) (i2l_iL ⟨by omega, by omega⟩) ?_
  refine lv_lconst (v := 1) hx hb dX10_simulate_3 (by decide) ?_
  refine cv_l (y := iL 1) (by decide) ?_
  refine lv_ldc2 (v := 60) hx hb hown (hts _ (List.mem_of_getElem? (i := 1) rfl)) dX10_simulate_4 ?_
  refine cv_l (y := iL 60) (by decide) ?_
  refine ro_S (As := [Value.long (iL k1), Value.long (iL 1), Value.long (iL 60)]) (rest := [Value.ref (ma 0)]) (v := some (Value.int (iI (zB (decide (1 ≤ k1 ∧ k1 ≤ 60)))))) ⟨hx, hb, hml, hown, hts⟩ (c_X10_in l g τ k1 1 60 ⟨by omega, by omega⟩ ⟨by omega, by omega⟩ ⟨by omega, by omega⟩) gX10_simulate_X10_in cd_X10_in rfl ⟨rfl, rfl⟩ ⟨Nat.le_of_ble_eq_true rfl, Nat.le_of_ble_eq_true rfl⟩ hK (fun _ _ h => by cases h) rfl hl rfl (Nat.le_of_ble_eq_true rfl) dX10_simulate_7 ⟨Nat.le_of_ble_eq_true rfl, Nat.le_of_ble_eq_true rfl⟩ ?_
  refine tl_some ?_
  refine zb_if_eq (tgt := 17) hx hb dX10_simulate_10 (by decide) (fun c_1 => ?_) (fun c_1 => ?_)
  · have cd_c_1 := of_decide_eq_false c_1
    refine lv_iconst (v := iI 1) hx hb dX10_simulate_17 (by decide) ?_
    refine rw_V (As := [Value.int (iI 1)]) (rest := []) ⟨hx, hb, hml, hown, hts⟩ (c_X10_refused l g τ ma M 1 ⟨by decide, by decide⟩) gX10_simulate_X10_refused cd_X10_refused rfl rfl ⟨rfl, rfl⟩ ⟨Nat.le_of_ble_eq_true rfl, Nat.le_of_ble_eq_true rfl⟩ hK hP hD hS [0] (rfl) (by decide) 0 rfl rfl rfl rfl hl rfl (Nat.le_of_ble_eq_true rfl) dX10_simulate_18 ⟨Nat.le_of_ble_eq_true rfl, Nat.le_of_ble_eq_true rfl⟩ (fun v w h => by rw [h.2]; rfl) (fun v w1 H locs hZ hP hD hS => ?_)
    obtain ⟨rfl, rfl⟩ := hZ
    have hP : va_P g vwCl ([moO ma (updZ M 0 1), arC (ma 1) (τ 0) 291 (flR R), arC (ma 2) (τ 0) 291 T, arC (ma 17) (τ 0) 6 P0]) H := hP
    have hD : va_D A ([moO ma (updZ M 0 1), arC (ma 1) (τ 0) 291 (flR R), arC (ma 2) (τ 0) 291 T, arC (ma 17) (τ 0) 6 P0]) := hD
    refine tl_some ?_
    refine cv_i (y := iI 1) (congrArg iI (if_neg (by decide))) ?_
    refine zi_if_eq (tgt := 26) hx hb ⟨by decide, by decide⟩ dX10_simulate_21 (by decide) (fun c_2 => ?_) (fun c_2 => ?_)
    · exact absurd c_2 (by decide)
    refine lv_iconst (v := iI 0) hx hb dX10_simulate_24 (by decide) ?_
    exact rw_iret hx hb hr hlocks hP hS (⟨(updZ M 0 1), _, _, by show (M 5) = M 5; first | rfl | omega, by show (M 9) = M 9; first | rfl | omega, rfl, Or.inl ⟨by omega, rfl, by show 1 = 1; first | rfl | omega⟩⟩) dX10_simulate_25
  · have cd_c_1 := of_decide_eq_true c_1
    refine lv_iconst (v := iI 0) hx hb dX10_simulate_13 (by decide) ?_
    refine lv_goto (tgt := 18) hx hb dX10_simulate_14 (by decide) ?_
    refine rw_V (As := [Value.int (iI 0)]) (rest := []) ⟨hx, hb, hml, hown, hts⟩ (c_X10_refused l g τ ma M 0 ⟨by decide, by decide⟩) gX10_simulate_X10_refused cd_X10_refused rfl rfl ⟨rfl, rfl⟩ ⟨Nat.le_of_ble_eq_true rfl, Nat.le_of_ble_eq_true rfl⟩ hK hP hD hS [0] (rfl) (by decide) 0 rfl rfl rfl rfl hl rfl (Nat.le_of_ble_eq_true rfl) dX10_simulate_18 ⟨Nat.le_of_ble_eq_true rfl, Nat.le_of_ble_eq_true rfl⟩ (fun v w h => by rw [h.2]; rfl) (fun v w1 H locs hZ hP hD hS => ?_)
    obtain ⟨rfl, rfl⟩ := hZ
    have hP : va_P g vwCl ([moO ma (updZ M 0 0), arC (ma 1) (τ 0) 291 (flR R), arC (ma 2) (τ 0) 291 T, arC (ma 17) (τ 0) 6 P0]) H := hP
    have hD : va_D A ([moO ma (updZ M 0 0), arC (ma 1) (τ 0) 291 (flR R), arC (ma 2) (τ 0) 291 T, arC (ma 17) (τ 0) 6 P0]) := hD
    refine tl_some ?_
    refine cv_i (y := iI 0) (congrArg iI (if_pos rfl)) ?_
    refine zi_if_eq (tgt := 26) hx hb ⟨by decide, by decide⟩ dX10_simulate_21 (by decide) (fun c_3 => ?_) (fun c_3 => ?_)
    · skip
      obtain ⟨n1, rfl⟩ := Int.eq_ofNat_of_zero_le (show 0 ≤ k1 by omega)
      refine lv_aload_n hx hb dX10_simulate_26 rfl (lv_at hl 0 rfl) ?_
      refine va_get (D := g) (ci := 10) (v := Value.ref (ma 1)) (C := RX10) (T := TX10) (N := 18) hx hb hts in_X10_simulate_X10 hown hK.1 hP 0 (rfl) rfl 1 (by decide) (hts _ (List.mem_of_getElem? (i := 2) rfl) : (Cond.fieldLink RX10 7 "CordSealsModel" "now" "[I").before _ s = true) (fun _ h9 => h9) rfl dX10_simulate_27 ?_
      refine lv_aload_n hx hb dX10_simulate_30 rfl (lv_at hl 0 rfl) ?_
      refine va_get (D := g) (ci := 10) (v := Value.ref (ma 2)) (C := RX10) (T := TX10) (N := 18) hx hb hts in_X10_simulate_X10 hown hK.1 hP 0 (rfl) rfl 2 (by decide) (hts _ (List.mem_of_getElem? (i := 3) rfl) : (Cond.fieldLink RX10 13 "CordSealsModel" "trial" "[I").before _ s = true) (fun _ h9 => h9) rfl dX10_simulate_31 ?_
      refine rw_S (As := [Value.ref (ma 1), Value.ref (ma 2)]) (rest := []) ⟨hx, hb, hml, hown, hts⟩ (c_X10_copy l g τ (ma 1) (ma 2) R T) gX10_simulate_X10_copy cd_X10_copy rfl ⟨rfl, rfl⟩ ⟨Nat.le_of_ble_eq_true rfl, Nat.le_of_ble_eq_true rfl⟩ hK hP hD hS [1, 2] (rfl) (by decide) rfl hl rfl (Nat.le_of_ble_eq_true rfl) dX10_simulate_34 ⟨Nat.le_of_ble_eq_true rfl, Nat.le_of_ble_eq_true rfl⟩ (fun v w h => by rw [h.2]; rfl) (fun v w1 H locs hZ hP hD hS => ?_)
      obtain ⟨rfl, rfl⟩ := hZ
      have hP : va_P g vwCl ([moO ma (updZ M 0 0), arC (ma 1) (τ 0) 291 (flR R), arC (ma 2) (τ 0) 291 (flR R), arC (ma 17) (τ 0) 6 P0]) H := hP
      have hD : va_D A ([moO ma (updZ M 0 0), arC (ma 1) (τ 0) 291 (flR R), arC (ma 2) (τ 0) 291 (flR R), arC (ma 17) (τ 0) 6 P0]) := hD
      refine tl_none ?_
      refine lv_lload_n hx hb dX10_simulate_37 rfl (lv_at hl 1 rfl) ?_
      refine lv_lstore (lv' := [(4, Value.long x), (0, Value.ref (ma 0)), (1, Value.long x), (3, Value.int (iI (n1 : Int)))]) hx hb dX10_simulate_38 hl (by decide) rfl (fun ls hl => ?_)
      refine lv_iconst (v := iI 0) hx hb dX10_simulate_40 (by decide) ?_
      refine lv_istore (lv' := [(6, Value.int (iI 0)), (4, Value.long x), (0, Value.ref (ma 0)), (1, Value.long x), (3, Value.int (iI (n1 : Int)))]) hx hb dX10_simulate_41 hl (by decide) rfl (fun ls hl => ?_)
      have h0_4 : qX x 0 = x := rfl
      have hP : va_P g vwCl ([moO ma (updZ M 0 0), arC (ma 1) (τ 0) 291 (flR R), arC (ma 2) (τ 0) 291 (flR (qSim R x 0)), arC (ma 17) (τ 0) 6 P0]) H := by exact hP
      have hD : va_D A ([moO ma (updZ M 0 0), arC (ma 1) (τ 0) 291 (flR R), arC (ma 2) (τ 0) 291 (flR (qSim R x 0)), arC (ma 17) (τ 0) 6 P0]) := by exact hD
      refine lp_upX (fun i => [(6, Value.int (iI (i : Int))), (4, Value.long (qX x i)), (0, Value.ref (ma 0)), (1, Value.long x), (3, Value.int (iI (n1 : Int)))]) (fun i X => [moO ma X.1, arC (ma 1) (τ 0) 291 (flR R), arC (ma 2) (τ 0) 291 (flR (qSim R x i)), arC (ma 17) (τ 0) 6 X.2]) (fun i X => AG (updZ M 0 0) X.1) (n1) (0) (updZ M 0 0, P0) (by omega) hP hD hS (AG_r _) (lv_eq (lv_sub hl [0, 1, 2, 3, 4] rfl) (by show [(6, Value.int (iI 0)), (4, Value.long (qX x 0)), (0, Value.ref (ma 0)), (1, Value.long x), (3, Value.int (iI (n1 : Int)))] = [(6, Value.int (iI 0)), (4, Value.long x), (0, Value.ref (ma 0)), (1, Value.long x), (3, Value.int (iI (n1 : Int)))]; rw [h0_4])) (fun i h0_i hi_i ⟨M_5, P_M_5⟩ hJ_i ih_43 H locs hP hD hS ls hl => ?_)
      have hP : va_P g vwCl ([moO ma M_5, arC (ma 1) (τ 0) 291 (flR R), arC (ma 2) (τ 0) 291 (flR (qSim R x i)), arC (ma 17) (τ 0) 6 P_M_5]) H := hP
      have hD : va_D A ([moO ma M_5, arC (ma 1) (τ 0) 291 (flR R), arC (ma 2) (τ 0) 291 (flR (qSim R x i)), arC (ma 17) (τ 0) 6 P_M_5]) := hD
      have hJ_i : AG (updZ M 0 0) M_5 := hJ_i
      have hfM_5_0 : M_5 0 = 0 := hJ_i 0 (by decide)
      have hfM_5_5 : M_5 5 = M 5 := hJ_i 5 (by decide)
      have hfM_5_9 : M_5 9 = M 9 := hJ_i 9 (by decide)
      have hfM_5_10 : M_5 10 = M 10 := hJ_i 10 (by decide)
      have hfM_5_11 : M_5 11 = M 11 := hJ_i 11 (by decide)
      have hfM_5_12 : M_5 12 = M 12 := hJ_i 12 (by decide)
      refine lv_iload hx hb dX10_simulate_43 (lv_at hl 0 rfl) ?_
      refine lv_iload_n hx hb dX10_simulate_45 rfl (lv_at hl 4 rfl) ?_
      refine zi_icmp_ge (tgt := 77) hx hb ⟨by omega, by omega⟩ ⟨by omega, by omega⟩ dX10_simulate_46 (by decide) (fun c_6 => ?_) (fun c_6 => ?_)
      · have _ := c_6
        have h0_i : i = n1 := by omega
        refine lv_sipush (v := iI 1000) hx hb dX10_simulate_77 (by decide) ?_
        refine lv_aload_n hx hb dX10_simulate_80 rfl (lv_at hl 2 rfl) ?_
        refine va_get (D := g) (ci := 10) (v := Value.ref (ma 2)) (C := RX10) (T := TX10) (N := 18) hx hb hts in_X10_simulate_X10 hown hK.1 hP 0 (rfl) rfl 2 (by decide) (hts _ (List.mem_of_getElem? (i := 3) rfl) : (Cond.fieldLink RX10 13 "CordSealsModel" "trial" "[I").before _ s = true) (fun _ h9 => h9) rfl dX10_simulate_81 ?_
        refine lv_iconst (v := iI 2) hx hb dX10_simulate_84 (by decide) ?_
        refine zf_ald hx hb hK hP 2 (f := flR (qSim R x i)) rfl (2) (rfl) (by omega) (by decide) (z := (qSim R x i) 10 0) (fl_10) dX10_simulate_85 ?_
        refine zi_mul hx hb dX10_simulate_86 ?_
        refine lv_bipush (v := iI 10) hx hb dX10_simulate_87 (by decide) ?_
        refine lv_aload_n hx hb dX10_simulate_89 rfl (lv_at hl 2 rfl) ?_
        refine lv_aload_n hx hb dX10_simulate_90 rfl (lv_at hl 2 rfl) ?_
        refine va_get (D := g) (ci := 10) (v := Value.ref (ma 2)) (C := RX10) (T := TX10) (N := 18) hx hb hts in_X10_simulate_X10 hown hK.1 hP 0 (rfl) rfl 2 (by decide) (hts _ (List.mem_of_getElem? (i := 3) rfl) : (Cond.fieldLink RX10 13 "CordSealsModel" "trial" "[I").before _ s = true) (fun _ h9 => h9) rfl dX10_simulate_91 ?_
        refine rw_V (As := [Value.ref (ma 2)]) (rest := [Value.int (iI 10), Value.int (iI (1000 * ((qSim R x i) 10 0)))]) ⟨hx, hb, hml, hown, hts⟩ (c_X10_fakes l g τ ma M_5 (ma 2) (qSim R x i) (SI_sim hI x i) ) gX10_simulate_X10_fakes cd_X10_fakes rfl rfl ⟨rfl, rfl⟩ ⟨Nat.le_of_ble_eq_true rfl, Nat.le_of_ble_eq_true rfl⟩ hK hP hD hS [0, 2] (rfl) (by decide) 0 rfl rfl rfl rfl hl rfl (Nat.le_of_ble_eq_true rfl) dX10_simulate_94 ⟨Nat.le_of_ble_eq_true rfl, Nat.le_of_ble_eq_true rfl⟩ (fun v w h => by obtain ⟨-, M9, -, rfl⟩ := h; rfl) (fun v w1 H locs hZ hP hD hS => ?_)
        obtain ⟨rfl, M_7, hgM_7, rfl⟩ := hZ
        have hP : va_P g vwCl ([moO ma M_7, arC (ma 1) (τ 0) 291 (flR R), arC (ma 2) (τ 0) 291 (flR (qSim R x i)), arC (ma 17) (τ 0) 6 P_M_5]) H := hP
        have hD : va_D A ([moO ma M_7, arC (ma 1) (τ 0) 291 (flR R), arC (ma 2) (τ 0) 291 (flR (qSim R x i)), arC (ma 17) (τ 0) 6 P_M_5]) := hD
        have hfM_7_0 : M_7 0 = M_5 0 := hgM_7 0 (by decide)
        have hfM_7_5 : M_7 5 = M_5 5 := hgM_7 5 (by decide)
        have hfM_7_9 : M_7 9 = M_5 9 := hgM_7 9 (by decide)
        have hfM_7_10 : M_7 10 = M_5 10 := hgM_7 10 (by decide)
        have hfM_7_11 : M_7 11 = M_5 11 := hgM_7 11 (by decide)
        have hfM_7_12 : M_7 12 = M_5 12 := hgM_7 12 (by decide)
        have := cnt_le (fun s => decide (0 < rFk (qSim R x i) s)) ((qSim R x i) 10 0).toNat
        have hfks : rFks (qSim R x i) ((qSim R x i) 10 0).toNat = cnt (fun s => decide (0 < rFk (qSim R x i) s)) ((qSim R x i) 10 0).toNat := rfl
        refine tl_some ?_
        refine zi_mul hx hb dX10_simulate_97 ?_
        refine zi_add hx hb dX10_simulate_98 ?_
        refine lv_aload_n hx hb dX10_simulate_99 rfl (lv_at hl 2 rfl) ?_
        refine lv_aload_n hx hb dX10_simulate_100 rfl (lv_at hl 2 rfl) ?_
        refine va_get (D := g) (ci := 10) (v := Value.ref (ma 2)) (C := RX10) (T := TX10) (N := 18) hx hb hts in_X10_simulate_X10 hown hK.1 hP 0 (rfl) rfl 2 (by decide) (hts _ (List.mem_of_getElem? (i := 3) rfl) : (Cond.fieldLink RX10 13 "CordSealsModel" "trial" "[I").before _ s = true) (fun _ h9 => h9) rfl dX10_simulate_101 ?_
        refine rw_V (As := [Value.ref (ma 2)]) (rest := [Value.int (iI ((1000 * ((qSim R x i) 10 0)) + (10 * (rFks (qSim R x i) ((qSim R x i) 10 0).toNat))))]) ⟨hx, hb, hml, hown, hts⟩ (c_X10_bad l g τ ma M_7 (ma 2) (qSim R x i) (SI_sim hI x i) ) gX10_simulate_X10_bad cd_X10_bad rfl rfl ⟨rfl, rfl⟩ ⟨Nat.le_of_ble_eq_true rfl, Nat.le_of_ble_eq_true rfl⟩ hK hP hD hS [0, 2] (rfl) (by decide) 0 rfl rfl rfl rfl hl rfl (Nat.le_of_ble_eq_true rfl) dX10_simulate_104 ⟨Nat.le_of_ble_eq_true rfl, Nat.le_of_ble_eq_true rfl⟩ (fun v w h => by obtain ⟨-, M9, -, rfl⟩ := h; rfl) (fun v w1 H locs hZ hP hD hS => ?_)
        obtain ⟨rfl, M_8, hgM_8, rfl⟩ := hZ
        have hP : va_P g vwCl ([moO ma M_8, arC (ma 1) (τ 0) 291 (flR R), arC (ma 2) (τ 0) 291 (flR (qSim R x i)), arC (ma 17) (τ 0) 6 P_M_5]) H := hP
        have hD : va_D A ([moO ma M_8, arC (ma 1) (τ 0) 291 (flR R), arC (ma 2) (τ 0) 291 (flR (qSim R x i)), arC (ma 17) (τ 0) 6 P_M_5]) := hD
        have hfM_8_0 : M_8 0 = M_7 0 := hgM_8 0 (by decide)
        have hfM_8_5 : M_8 5 = M_7 5 := hgM_8 5 (by decide)
        have hfM_8_9 : M_8 9 = M_7 9 := hgM_8 9 (by decide)
        have hfM_8_10 : M_8 10 = M_7 10 := hgM_8 10 (by decide)
        have hfM_8_11 : M_8 11 = M_7 11 := hgM_8 11 (by decide)
        have hfM_8_12 : M_8 12 = M_7 12 := hgM_8 12 (by decide)
        have := cnt_le (fun h => !(rIs (qSim R x i) h ((qSim R x i) 18 h).toNat)) 6
        have hbad : rBad (qSim R x i) 6 = cnt (fun h => !(rIs (qSim R x i) h ((qSim R x i) 18 h).toNat)) 6 := rfl
        refine tl_some ?_
        refine zi_add hx hb dX10_simulate_107 ?_
        exact rw_iret hx hb hr hlocks hP hS (⟨M_8, _, _, by show (M_8 5) = M 5; first | rfl | omega, by show (M_8 9) = M 9; first | rfl | omega, rfl, Or.inr ⟨⟨by omega, by omega⟩, by (have hin : i = n1 := by omega); show _ = some (Value.int (iI (qSimN R x n1))); rw [← hin, qSimN], by show (M_8 0) = 0; first | rfl | omega⟩⟩) dX10_simulate_108
      · have _ := c_6
        have hl_i : i < n1 := by omega
        refine lv_lload hx hb dX10_simulate_49 (lv_at hl 1 rfl) ?_
        refine lv_ldc2 (v := 6364136223846793005) hx hb hown (hts _ (List.mem_of_getElem? (i := 4) rfl)) dX10_simulate_51 ?_
        refine lv_lmul hx hb dX10_simulate_54 ?_
        refine lv_ldc2 (v := 1442695040888963407) hx hb hown (hts _ (List.mem_of_getElem? (i := 5) rfl)) dX10_simulate_55 ?_
        refine lv_ladd hx hb dX10_simulate_58 ?_
        refine cv_l (y := qX x (i + 1)) (qX_s x i) ?_
        refine lv_lstore (lv' := [(4, Value.long (qX x (i + 1))), (6, Value.int (iI (i : Int))), (0, Value.ref (ma 0)), (1, Value.long x), (3, Value.int (iI (n1 : Int)))]) hx hb dX10_simulate_59 hl (by decide) rfl (fun ls hl => ?_)
        refine lv_aload_n hx hb dX10_simulate_61 rfl (lv_at hl 2 rfl) ?_
        refine lv_lload hx hb dX10_simulate_62 (lv_at hl 0 rfl) ?_
        refine lv_bipush (v := iI 33) hx hb dX10_simulate_64 (by decide) ?_
        refine lv_lushr (v := ((qX x (i + 1)).toUInt64 >>> ((33 : Int32).toInt64.toUInt64 &&& Int64.toUInt64 63)).toInt64) hx hb dX10_simulate_66 rfl ?_
        refine lv_l2i (v := iI (qT (qX x (i + 1)))) hx hb dX10_simulate_67 (qT_s _) ?_
        have hqr := qT_b (qX x (i + 1))
        generalize hqT : qT (qX x (i + 1)) = rq at hqr ⊢
        refine rw_V (As := [Value.int (iI rq)]) (rest := []) ⟨hx, hb, hml, hown, hts⟩ (c_X10_stir l g τ ma M_5 (qSim R x i) (SI_sim hI x i) P_M_5 rq hqr) gX10_simulate_X10_stir cd_X10_stir rfl rfl ⟨rfl, rfl⟩ ⟨Nat.le_of_ble_eq_true rfl, Nat.le_of_ble_eq_true rfl⟩ hK hP hD hS [0, 2, 3] (rfl) (by decide) 0 rfl rfl rfl rfl hl rfl (Nat.le_of_ble_eq_true rfl) dX10_simulate_68 ⟨Nat.le_of_ble_eq_true rfl, Nat.le_of_ble_eq_true rfl⟩ (fun v w h => by obtain ⟨-, M9, P9, -, rfl⟩ := h; exact f_m3 _ _ _ _ _ _ _ _ _ _ _ _ _) (fun v w1 H locs hZ hP hD hS => ?_)
        obtain ⟨rfl, M_9, P_M_9, hgM_9, rfl⟩ := hZ
        have hP : va_P g vwCl ([moO ma M_9, arC (ma 1) (τ 0) 291 (flR R), arC (ma 2) (τ 0) 291 (flR (qStir (qSim R x i) rq)), arC (ma 17) (τ 0) 6 P_M_9]) H := hP
        have hD : va_D A ([moO ma M_9, arC (ma 1) (τ 0) 291 (flR R), arC (ma 2) (τ 0) 291 (flR (qStir (qSim R x i) rq)), arC (ma 17) (τ 0) 6 P_M_9]) := hD
        have hfM_9_0 : M_9 0 = M_5 0 := hgM_9 0 (by decide)
        have hfM_9_5 : M_9 5 = M_5 5 := hgM_9 5 (by decide)
        have hfM_9_9 : M_9 9 = M_5 9 := hgM_9 9 (by decide)
        refine tl_none ?_
        refine zi_inc (v := ((i + 1 : Nat) : Int)) (lv' := [(6, Value.int (iI ((i + 1 : Nat) : Int))), (4, Value.long (qX x (i + 1))), (0, Value.ref (ma 0)), (1, Value.long x), (3, Value.int (iI (n1 : Int)))]) hx hb dX10_simulate_71 hl (k := 1) rfl (by omega) (by decide) rfl (fun ls hl => ?_)
        refine lv_goto (tgt := 43) hx hb dX10_simulate_74 (by decide) ?_
        have hb_10 : (((i + 1) : Nat) : Int) = ((i + 1 : Nat) : Int) := by first | rfl | omega | (simp [c_1, c_6]; done)
        have hw_11 : [moO ma M_9, arC (ma 1) (τ 0) 291 (flR R), arC (ma 2) (τ 0) 291 (flR (qStir (qSim R x i) rq)), arC (ma 17) (τ 0) 6 P_M_9] = [moO ma M_9, arC (ma 1) (τ 0) 291 (flR R), arC (ma 2) (τ 0) 291 (flR (qSim R x (i + 1))), arC (ma 17) (τ 0) 6 P_M_9] := by rw [qSim, hqT]
        rw [hw_11] at hP hD
        exact ih_43 hl_i (M_9, P_M_9) (AG_t (hJ_i) hgM_9) _ _ _ hP hD hS (lv_eq (lv_sub hl [0, 1, 2, 3, 4] rfl) (by show [(6, Value.int (iI (((i + 1) : Nat) : Int))), (4, Value.long (qX x (i + 1))), (0, Value.ref (ma 0)), (1, Value.long x), (3, Value.int (iI (n1 : Int)))] = [(6, Value.int (iI ((i + 1 : Nat) : Int))), (4, Value.long (qX x (i + 1))), (0, Value.ref (ma 0)), (1, Value.long x), (3, Value.int (iI (n1 : Int)))]; rw [hb_10]))
    · exact absurd c_3 (by decide)
