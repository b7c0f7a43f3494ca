/-! the class: trials to their ends; save slots -/
theorem f_xt (X : Nat × va_E) (bd : Nat → Nat) (T T2 : Nat → Nat → Int) (τ : Nat → ClassId) : ([X] ++ stW bd T2 τ).map Prod.fst = ([X] ++ stW bd T τ).map Prod.fst := rfl
theorem p10_s (i : Nat) : (10 : Int) ^ (6 * i) * 1000000 = 10 ^ (6 * (i + 1)) := by
  rw [show 6 * (i + 1) = 6 * i + 6 from by omega, Int.pow_add]
  rfl
theorem p10_d {n i : Nat} (h : i < n) : (10 : Int) ^ (6 * (n - i)) / 1000000 = 10 ^ (6 * (n - 1 - i)) := by
  rw [show n - i = (n - 1 - i) + 1 from by omega, ← p10_s]
  exact Int.mul_ediv_cancel _ (by decide)

theorem pm4_ (A0 A1 A2 A3 : va_W) : (A0 ++ (A1 ++ (A2 ++ A3))).Perm (([]) ++ (A0 ++ (A1 ++ (A2 ++ A3)))) := by
  have e : A0 ++ (A1 ++ (A2 ++ A3)) = ([]) ++ (A0 ++ (A1 ++ (A2 ++ A3))) := by simp only [List.append_assoc, List.nil_append, List.append_nil]
  exact Eq.mp (congrArg (List.Perm (A0 ++ (A1 ++ (A2 ++ A3)))) e) (List.Perm.refl _)

theorem pm4_023 (A0 A1 A2 A3 : va_W) : (A0 ++ (A1 ++ (A2 ++ A3))).Perm ((A0 ++ (A2 ++ A3)) ++ A1) := by
  have h := List.Perm.flatMap_right (fun i => ([A0, A1, A2, A3] : List va_W).getD i []) (show List.Perm [0, 1, 2, 3] [0, 2, 3, 1] by decide)
  simpa [List.append_assoc] using h

theorem pm4_31 (A0 A1 A2 A3 : va_W) : (A0 ++ (A1 ++ (A2 ++ A3))).Perm ((A3 ++ A1) ++ (A0 ++ A2)) := by
  have h := List.Perm.flatMap_right (fun i => ([A0, A1, A2, A3] : List va_W).getD i []) (show List.Perm [0, 1, 2, 3] [3, 1, 0, 2] by decide)
  simpa [List.append_assoc] using h

theorem pm4_32 (A0 A1 A2 A3 : va_W) : (A0 ++ (A1 ++ (A2 ++ A3))).Perm ((A3 ++ A2) ++ (A0 ++ A1)) := by
  have h := List.Perm.flatMap_right (fun i => ([A0, A1, A2, A3] : List va_W).getD i []) (show List.Perm [0, 1, 2, 3] [3, 2, 0, 1] by decide)
  simpa [List.append_assoc] using h

theorem pm5_21 (A0 A1 A2 A3 A4 : va_W) : (A0 ++ (A1 ++ (A2 ++ (A3 ++ A4)))).Perm ((A2 ++ A1) ++ (A0 ++ (A3 ++ A4))) := by
  have h := List.Perm.flatMap_right (fun i => ([A0, A1, A2, A3, A4] : List va_W).getD i []) (show List.Perm [0, 1, 2, 3, 4] [2, 1, 0, 3, 4] by decide)
  simpa [List.append_assoc] using h

theorem pm6_12 (A0 A1 A2 A3 A4 A5 : va_W) : (A0 ++ (A1 ++ (A2 ++ (A3 ++ (A4 ++ A5))))).Perm ((A1 ++ A2) ++ (A0 ++ (A3 ++ (A4 ++ A5)))) := by
  have h := List.Perm.flatMap_right (fun i => ([A0, A1, A2, A3, A4, A5] : List va_W).getD i []) (show List.Perm [0, 1, 2, 3, 4, 5] [1, 2, 0, 3, 4, 5] by decide)
  simpa [List.append_assoc] using h

theorem pm6_3 (A0 A1 A2 A3 A4 A5 : va_W) : (A0 ++ (A1 ++ (A2 ++ (A3 ++ (A4 ++ A5))))).Perm ((A3) ++ (A0 ++ (A1 ++ (A2 ++ (A4 ++ A5))))) := by
  have h := List.Perm.flatMap_right (fun i => ([A0, A1, A2, A3, A4, A5] : List va_W).getD i []) (show List.Perm [0, 1, 2, 3, 4, 5] [3, 0, 1, 2, 4, 5] by decide)
  simpa [List.append_assoc] using h

theorem cd_X9_ifCracked : cd yX9_ifCracked 2 := by decide +kernel
theorem in_X9_ifCracked_X9 : ∀ w ∈ wsX90, w ∈ wsX9_ifCracked := by decide +kernel
set_option maxHeartbeats 2000000 in
set_option maxRecDepth 100000 in
theorem c_X9_ifCracked (l : Launch) (hst : l.stackTraces = false) (g : va_G) (τ : Nat → ClassId) (x sl sv : Nat) (ta aj me ad bd : Nat → Nat) (R T : Nat → Nat → Int) (hI : SI R) (J : Nat → Nat → Int) (hjb : HB J) (hjs : JSp J) (d1 : Int) (rd1 : -2147483648 ≤ d1 ∧ d1 < 2147483648) (yy : Int) (ryy : -2147483648 ≤ yy ∧ yy < 2147483648)  : uMet l yX9_ifCracked wsX9_ifCracked { frames := 8, cells := 1, slots := 6, locals := 130 } g τ [Value.ref x, Value.int (iI d1), Value.int (iI yy)] ([xoC x (ta 0) (aj 0) (me 0) sl sv (ad 0) (bd 0)] ++ (stW ad R τ ++ (stW bd T τ ++ juW aj J τ))) (fun v w => 0 ≤ (aCrack R d1 yy).1 ∧ v = some (Value.int (iI (rFks (aCrack R d1 yy).2 (R 10 0).toNat - rFks R (R 10 0).toNat))) ∧ ∃ T2 J2, HB J2 ∧ JSp J2 ∧ w = [xoC x (ta 0) (aj 0) (me 0) sl sv (ad 0) (bd 0)] ++ (stW ad R τ ++ (stW bd T2 τ ++ juW aj J2 τ))) (fun E w => xEx (aCrack R d1 yy).1 E ∧ ∃ T2 J2, HB J2 ∧ JSp J2 ∧ w = [xoC x (ta 0) (aj 0) (me 0) sl sv (ad 0) (bd 0)] ++ (stW ad R τ ++ (stW bd T2 τ ++ juW aj J2 τ))) := by
  have hB := hI.hB
  have hr0 := hI.r
  have hd0 := hI.d
  have hs0 := hI.s
  have hN := hI.hN
  refine uMet_of (cc := cX9_ifCracked) (maxL := 3) (ret := (some .int)) (lv := [(0, Value.ref x), (1, Value.int (iI d1)), (2, Value.int (iI yy))]) (by decide) rfl (Nat.le_of_ble_eq_true rfl) rfl ?_
  intro p e s m below meth c hx hb hr hml hts hown hlocks ht A H hP hD hS hK hZT hZU ls hl
  have hP_x := va_left hP
  have hP_s := va_left (va_right hP)
  have hP_t := va_left (va_right (va_right hP))
  have hP_j := va_right (va_right (va_right hP))
  refine lv_aload_n hx hb dX9_ifCracked_0 rfl (lv_at hl 0 rfl) ?_
  refine rq_V (As := []) (rest := []) ⟨hx, hb, hml, hown, hts⟩ (c_X9_freshTrial l g τ x sl sv ta aj me ad bd R T) gX9_ifCracked_X9_freshTrial cd_X9_freshTrial rfl rfl ⟨rfl, rfl⟩ ⟨Nat.le_of_ble_eq_true rfl, Nat.le_of_ble_eq_true rfl⟩ hK hP hD hS (pm4_012 _ _ _ _) 0 rfl rfl rfl rfl hl rfl (Nat.le_of_ble_eq_true rfl) dX9_ifCracked_1 ⟨Nat.le_of_ble_eq_true rfl, Nat.le_of_ble_eq_true rfl⟩ (fun v w h => by rw [h.2]; exact f_xst _ _ _ _ _ _ _ _) (fun v w1 H locs hZ hP hD hS => ?_)
  obtain ⟨rfl, rfl⟩ := hZ
  have hP : va_P g vwCl ([xoC x (ta 0) (aj 0) (me 0) sl sv (ad 0) (bd 0)] ++ (stW ad R τ ++ (stW bd R τ ++ juW aj J τ))) H := hP.pm (pm4_012 _ _ _ _).symm
  have hD : va_D A ([xoC x (ta 0) (aj 0) (me 0) sl sv (ad 0) (bd 0)] ++ (stW ad R τ ++ (stW bd R τ ++ juW aj J τ))) := hD.pm (pm4_012 _ _ _ _).symm
  have hP_x := va_left hP
  have hP_s := va_left (va_right hP)
  have hP_t := va_left (va_right (va_right hP))
  have hP_j := va_right (va_right (va_right hP))
  refine tl_some ?_
  refine lv_iload_n hx hb dX9_ifCracked_4 rfl (lv_at hl 1 rfl) ?_
  refine lv_iload_n hx hb dX9_ifCracked_5 rfl (lv_at hl 2 rfl) ?_
  refine rq_V (As := [Value.int (iI d1), Value.int (iI yy)]) (rest := []) ⟨hx, hb, hml, hown, hts⟩ (c_X6_addCrack l g τ bd R hI d1 ⟨by omega, by omega⟩ yy ⟨by omega, by omega⟩) gX9_ifCracked_X6_addCrack cd_X6_addCrack rfl rfl ⟨rfl, rfl⟩ ⟨Nat.le_of_ble_eq_true rfl, Nat.le_of_ble_eq_true rfl⟩ hK hP hD hS (pm4_2 _ _ _ _) 0 rfl rfl rfl rfl hl rfl (Nat.le_of_ble_eq_true rfl) dX9_ifCracked_6 ⟨Nat.le_of_ble_eq_true rfl, Nat.le_of_ble_eq_true rfl⟩ (fun v w h => by rw [h.2]; exact f_stx bd ta _ _ _) (fun v w1 H locs hZ hP hD hS => ?_)
  obtain ⟨rfl, rfl⟩ := hZ
  have hP : va_P g vwCl ([xoC x (ta 0) (aj 0) (me 0) sl sv (ad 0) (bd 0)] ++ (stW ad R τ ++ (stW bd ((aCrack R d1 yy).2) τ ++ juW aj J τ))) H := hP.pm (pm4_2 _ _ _ _).symm
  have hD : va_D A ([xoC x (ta 0) (aj 0) (me 0) sl sv (ad 0) (bd 0)] ++ (stW ad R τ ++ (stW bd ((aCrack R d1 yy).2) τ ++ juW aj J τ))) := hD.pm (pm4_2 _ _ _ _).symm
  have hP_x := va_left hP
  have hP_s := va_left (va_right hP)
  have hP_t := va_left (va_right (va_right hP))
  have hP_j := va_right (va_right (va_right hP))
  refine tl_some ?_
  have hra := aCrack_r hI d1 yy
  refine ru_S (As := [Value.int (iI ((aCrack R d1 yy).1))]) (rest := []) ⟨hx, hb, hml, hown, hts⟩ (c_X9_mustBeAnswer l hst g τ ((aCrack R d1 yy).1) ⟨by omega, by omega⟩) gX9_ifCracked_X9_mustBeAnswer cd_X9_mustBeAnswer rfl ⟨rfl, rfl⟩ ⟨Nat.le_of_ble_eq_true rfl, Nat.le_of_ble_eq_true rfl⟩ hK hZT hZU hP hD hS (pm4_ _ _ _ _) rfl hl rfl (Nat.le_of_ble_eq_true rfl) dX9_ifCracked_9 ⟨Nat.le_of_ble_eq_true rfl, Nat.le_of_ble_eq_true rfl⟩ (fun v w h => by rw [h.2.1]) (fun E w h => by rw [h.1]) (fun E w1 H locs q9 ce9 hZ hP hD hS a1 a2 a3 => ?_) (fun v w1 H locs hZ hP hD hS => ?_)
  · skip
    obtain ⟨rfl, hE⟩ := hZ
    have hP : va_P g vwCl ([xoC x (ta 0) (aj 0) (me 0) sl sv (ad 0) (bd 0)] ++ (stW ad R τ ++ (stW bd ((aCrack R d1 yy).2) τ ++ juW aj J τ))) H := hP.pm (pm4_ _ _ _ _).symm
    exact u_out ht hlocks a1 a2 a3 hP hS ⟨Nat.le_of_ble_eq_true rfl, Nat.le_of_ble_eq_true rfl⟩ (⟨hE, _, _, hjb, hjs, rfl⟩)
  · skip
    obtain ⟨rfl, rfl, hm2, hm3, hm4⟩ := hZ
    have hP : va_P g vwCl ([xoC x (ta 0) (aj 0) (me 0) sl sv (ad 0) (bd 0)] ++ (stW ad R τ ++ (stW bd ((aCrack R d1 yy).2) τ ++ juW aj J τ))) H := hP.pm (pm4_ _ _ _ _).symm
    have hD : va_D A ([xoC x (ta 0) (aj 0) (me 0) sl sv (ad 0) (bd 0)] ++ (stW ad R τ ++ (stW bd ((aCrack R d1 yy).2) τ ++ juW aj J τ))) := hD.pm (pm4_ _ _ _ _).symm
    have hP_x := va_left hP
    have hP_s := va_left (va_right hP)
    have hP_t := va_left (va_right (va_right hP))
    have hP_j := va_right (va_right (va_right hP))
    refine tl_none ?_
    refine lv_aload_n hx hb dX9_ifCracked_12 rfl (lv_at hl 0 rfl) ?_
    refine va_get (D := g) (ci := 9) (v := Value.ref (aj 0)) (C := RX9) (T := TX9) (N := 7) hx hb hts in_X9_ifCracked_X9 hown hK.1 hP_x 0 (rfl) rfl 1 (by decide) (hts _ (List.mem_of_getElem? (i := 1) rfl) : (Cond.fieldLink RX9 19 "CordSeals" "judge" "LCordSeals$Judge;").before _ s = true) (fun _ h9 => h9) rfl dX9_ifCracked_13 ?_
    refine lv_aload_n hx hb dX9_ifCracked_16 rfl (lv_at hl 0 rfl) ?_
    refine va_get (D := g) (ci := 9) (v := Value.ref (bd 0)) (C := RX9) (T := TX9) (N := 7) hx hb hts in_X9_ifCracked_X9 hown hK.1 hP_x 0 (rfl) rfl 6 (by decide) (hts _ (List.mem_of_getElem? (i := 2) rfl) : (Cond.fieldLink RX9 45 "CordSeals" "trial" "LCordSeals$State;").before _ s = true) (fun _ h9 => h9) rfl dX9_ifCracked_17 ?_
    refine rq_V (As := [Value.ref (bd 0)]) (rest := []) ⟨hx, hb, hml, hown, hts⟩ (c_X1_fakesIn l g τ bd aj ((aCrack R d1 yy).2) J (SI_aCrack hI d1 yy) hjb hjs) gX9_ifCracked_X1_fakesIn cd_X1_fakesIn rfl rfl ⟨rfl, rfl⟩ ⟨Nat.le_of_ble_eq_true rfl, Nat.le_of_ble_eq_true rfl⟩ hK hP hD hS (pm4_32 _ _ _ _) 0 rfl rfl rfl rfl hl rfl (Nat.le_of_ble_eq_true rfl) dX9_ifCracked_20 ⟨Nat.le_of_ble_eq_true rfl, Nat.le_of_ble_eq_true rfl⟩ (fun v w h => by rw [h.2]; exact f_ju aj bd _ _ _ _) (fun v w1 H locs hZ hP hD hS => ?_)
    obtain ⟨rfl, rfl⟩ := hZ
    have hP : va_P g vwCl ([xoC x (ta 0) (aj 0) (me 0) sl sv (ad 0) (bd 0)] ++ (stW ad R τ ++ (stW bd ((aCrack R d1 yy).2) τ ++ juW aj (seeJ ((aCrack R d1 yy).2) J) τ))) H := hP.pm (pm4_32 _ _ _ _).symm
    have hD : va_D A ([xoC x (ta 0) (aj 0) (me 0) sl sv (ad 0) (bd 0)] ++ (stW ad R τ ++ (stW bd ((aCrack R d1 yy).2) τ ++ juW aj (seeJ ((aCrack R d1 yy).2) J) τ))) := hD.pm (pm4_32 _ _ _ _).symm
    obtain ⟨J1, hjb1, hjs1, hse1, hje⟩ : ∃ J9, HB J9 ∧ JSp J9 ∧ SEE ((aCrack R d1 yy).2) J9 6 ∧ seeJ ((aCrack R d1 yy).2) J = J9 := ⟨_, (see_ok (SI_aCrack hI d1 yy) hjb hjs).1, (see_ok (SI_aCrack hI d1 yy) hjb hjs).2, SEE_see (SI_aCrack hI d1 yy) J, rfl⟩
    rw [hje] at hP hD ⊢
    have hP_x := va_left hP
    have hP_s := va_left (va_right hP)
    have hP_t := va_left (va_right (va_right hP))
    have hP_j := va_right (va_right (va_right hP))
    refine tl_some ?_
    refine cv_i (y := iI (rFks ((aCrack R d1 yy).2) (((aCrack R d1 yy).2) 10 0).toNat)) (congrArg iI (jF_eq (SI_aCrack hI d1 yy) hse1)) ?_
    have hfk1 := rFks_b ((aCrack R d1 yy).2) (((aCrack R d1 yy).2) 10 0).toNat
    refine cv_i (y := iI (rFks (aCrack R d1 yy).2 (R 10 0).toNat)) (by rw [aCrack_10]) ?_
    refine lv_aload_n hx hb dX9_ifCracked_23 rfl (lv_at hl 0 rfl) ?_
    refine va_get (D := g) (ci := 9) (v := Value.ref (aj 0)) (C := RX9) (T := TX9) (N := 7) hx hb hts in_X9_ifCracked_X9 hown hK.1 hP_x 0 (rfl) rfl 1 (by decide) (hts _ (List.mem_of_getElem? (i := 1) rfl) : (Cond.fieldLink RX9 19 "CordSeals" "judge" "LCordSeals$Judge;").before _ s = true) (fun _ h9 => h9) rfl dX9_ifCracked_24 ?_
    refine lv_aload_n hx hb dX9_ifCracked_27 rfl (lv_at hl 0 rfl) ?_
    refine va_get (D := g) (ci := 9) (v := Value.ref (ad 0)) (C := RX9) (T := TX9) (N := 7) hx hb hts in_X9_ifCracked_X9 hown hK.1 hP_x 0 (rfl) rfl 5 (by decide) (hts _ (List.mem_of_getElem? (i := 3) rfl) : (Cond.fieldLink RX9 41 "CordSeals" "state" "LCordSeals$State;").before _ s = true) (fun _ h9 => h9) rfl dX9_ifCracked_28 ?_
    refine rq_V (As := [Value.ref (ad 0)]) (rest := [Value.int (iI (rFks (aCrack R d1 yy).2 (R 10 0).toNat))]) ⟨hx, hb, hml, hown, hts⟩ (c_X1_fakesIn l g τ ad aj R J1 hI hjb1 hjs1) gX9_ifCracked_X1_fakesIn cd_X1_fakesIn rfl rfl ⟨rfl, rfl⟩ ⟨Nat.le_of_ble_eq_true rfl, Nat.le_of_ble_eq_true rfl⟩ hK hP hD hS (pm4_31 _ _ _ _) 0 rfl rfl rfl rfl hl rfl (Nat.le_of_ble_eq_true rfl) dX9_ifCracked_31 ⟨Nat.le_of_ble_eq_true rfl, Nat.le_of_ble_eq_true rfl⟩ (fun v w h => by rw [h.2]; exact f_ju aj ad _ _ _ _) (fun v w1 H locs hZ hP hD hS => ?_)
    obtain ⟨rfl, rfl⟩ := hZ
    have hP : va_P g vwCl ([xoC x (ta 0) (aj 0) (me 0) sl sv (ad 0) (bd 0)] ++ (stW ad R τ ++ (stW bd ((aCrack R d1 yy).2) τ ++ juW aj (seeJ R J1) τ))) H := hP.pm (pm4_31 _ _ _ _).symm
    have hD : va_D A ([xoC x (ta 0) (aj 0) (me 0) sl sv (ad 0) (bd 0)] ++ (stW ad R τ ++ (stW bd ((aCrack R d1 yy).2) τ ++ juW aj (seeJ R J1) τ))) := hD.pm (pm4_31 _ _ _ _).symm
    obtain ⟨J2, hjb2, hjs2, hse2, hje⟩ : ∃ J9, HB J9 ∧ JSp J9 ∧ SEE R J9 6 ∧ seeJ R J1 = J9 := ⟨_, (see_ok hI hjb1 hjs1).1, (see_ok hI hjb1 hjs1).2, SEE_see hI J1, rfl⟩
    rw [hje] at hP hD ⊢
    have hP_x := va_left hP
    have hP_s := va_left (va_right hP)
    have hP_t := va_left (va_right (va_right hP))
    have hP_j := va_right (va_right (va_right hP))
    refine tl_some ?_
    refine cv_i (y := iI (rFks R (R 10 0).toNat)) (congrArg iI (jF_eq hI hse2)) ?_
    have hfk2 := rFks_b R (R 10 0).toNat
    refine zi_sub hx hb dX9_ifCracked_34 ?_
    exact u_iret hx hb hr hlocks hP hS ⟨Nat.le_of_ble_eq_true rfl, Nat.le_of_ble_eq_true rfl⟩ (⟨by omega, rfl, _, _, hjb2, hjs2, rfl⟩) dX9_ifCracked_35

theorem cd_X9_ifHung : cd yX9_ifHung 2 := by decide +kernel
theorem in_X9_ifHung_X1 : ∀ w ∈ wsX10, w ∈ wsX9_ifHung := by decide +kernel
theorem in_X9_ifHung_X6 : ∀ w ∈ wsX60, w ∈ wsX9_ifHung := by decide +kernel
theorem in_X9_ifHung_X9 : ∀ w ∈ wsX90, w ∈ wsX9_ifHung := by decide +kernel
set_option maxHeartbeats 2000000 in
set_option maxRecDepth 100000 in
theorem c_X9_ifHung (l : Launch) (hst : l.stackTraces = false) (g : va_G) (τ : Nat → ClassId) (x sl sv : Nat) (ta aj me ad bd : Nat → Nat) (R T : Nat → Nat → Int) (hI : SI R) (J : Nat → Nat → Int) (hjb : HB J) (hjs : JSp J) (t1 : Int) (rt1 : -2147483648 ≤ t1 ∧ t1 < 2147483648) (q1 : Int) (rq1 : -2147483648 ≤ q1 ∧ q1 < 2147483648)  : uMet l yX9_ifHung wsX9_ifHung { frames := 8, cells := 1, slots := 6, locals := 130 } g τ [Value.ref x, Value.int (iI t1), Value.int (iI q1)] ([xoC x (ta 0) (aj 0) (me 0) sl sv (ad 0) (bd 0)] ++ (stW ad R τ ++ (stW bd T τ ++ juW aj J τ))) (fun v w => 0 ≤ (aHang R t1 q1).1 ∧ v = some (Value.int (iI (rCh (aHang R t1 q1).2 q1 (-1) 2))) ∧ ∃ T2 J2, HB J2 ∧ JSp J2 ∧ w = [xoC x (ta 0) (aj 0) (me 0) sl sv (ad 0) (bd 0)] ++ (stW ad R τ ++ (stW bd T2 τ ++ juW aj J2 τ))) (fun E w => xEx (aHang R t1 q1).1 E ∧ ∃ T2 J2, HB J2 ∧ JSp J2 ∧ w = [xoC x (ta 0) (aj 0) (me 0) sl sv (ad 0) (bd 0)] ++ (stW ad R τ ++ (stW bd T2 τ ++ juW aj J2 τ))) := by
  have hB := hI.hB
  have hr0 := hI.r
  have hd0 := hI.d
  have hs0 := hI.s
  have hN := hI.hN
  refine uMet_of (cc := cX9_ifHung) (maxL := 3) (ret := (some .int)) (lv := [(0, Value.ref x), (1, Value.int (iI t1)), (2, Value.int (iI q1))]) (by decide) rfl (Nat.le_of_ble_eq_true rfl) rfl ?_
  intro p e s m below meth c hx hb hr hml hts hown hlocks ht A H hP hD hS hK hZT hZU ls hl
  have hP_x := va_left hP
  have hP_s := va_left (va_right hP)
  have hP_t := va_left (va_right (va_right hP))
  have hP_j := va_right (va_right (va_right hP))
  refine lv_aload_n hx hb dX9_ifHung_0 rfl (lv_at hl 0 rfl) ?_
  refine rq_V (As := []) (rest := []) ⟨hx, hb, hml, hown, hts⟩ (c_X9_freshTrial l g τ x sl sv ta aj me ad bd R T) gX9_ifHung_X9_freshTrial cd_X9_freshTrial rfl rfl ⟨rfl, rfl⟩ ⟨Nat.le_of_ble_eq_true rfl, Nat.le_of_ble_eq_true rfl⟩ hK hP hD hS (pm4_012 _ _ _ _) 0 rfl rfl rfl rfl hl rfl (Nat.le_of_ble_eq_true rfl) dX9_ifHung_1 ⟨Nat.le_of_ble_eq_true rfl, Nat.le_of_ble_eq_true rfl⟩ (fun v w h => by rw [h.2]; exact f_xst _ _ _ _ _ _ _ _) (fun v w1 H locs hZ hP hD hS => ?_)
  obtain ⟨rfl, rfl⟩ := hZ
  have hP : va_P g vwCl ([xoC x (ta 0) (aj 0) (me 0) sl sv (ad 0) (bd 0)] ++ (stW ad R τ ++ (stW bd R τ ++ juW aj J τ))) H := hP.pm (pm4_012 _ _ _ _).symm
  have hD : va_D A ([xoC x (ta 0) (aj 0) (me 0) sl sv (ad 0) (bd 0)] ++ (stW ad R τ ++ (stW bd R τ ++ juW aj J τ))) := hD.pm (pm4_012 _ _ _ _).symm
  have hP_x := va_left hP
  have hP_s := va_left (va_right hP)
  have hP_t := va_left (va_right (va_right hP))
  have hP_j := va_right (va_right (va_right hP))
  refine tl_some ?_
  refine lv_iload_n hx hb dX9_ifHung_4 rfl (lv_at hl 1 rfl) ?_
  refine lv_iload_n hx hb dX9_ifHung_5 rfl (lv_at hl 2 rfl) ?_
  refine rq_V (As := [Value.int (iI t1), Value.int (iI q1)]) (rest := []) ⟨hx, hb, hml, hown, hts⟩ (c_X6_hangOn l g τ bd R hI t1 ⟨by omega, by omega⟩ q1 ⟨by omega, by omega⟩) gX9_ifHung_X6_hangOn cd_X6_hangOn rfl rfl ⟨rfl, rfl⟩ ⟨Nat.le_of_ble_eq_true rfl, Nat.le_of_ble_eq_true rfl⟩ hK hP hD hS (pm4_2 _ _ _ _) 0 rfl rfl rfl rfl hl rfl (Nat.le_of_ble_eq_true rfl) dX9_ifHung_6 ⟨Nat.le_of_ble_eq_true rfl, Nat.le_of_ble_eq_true rfl⟩ (fun v w h => by rw [h.2]; exact f_stx bd ta _ _ _) (fun v w1 H locs hZ hP hD hS => ?_)
  obtain ⟨rfl, rfl⟩ := hZ
  have hP : va_P g vwCl ([xoC x (ta 0) (aj 0) (me 0) sl sv (ad 0) (bd 0)] ++ (stW ad R τ ++ (stW bd ((aHang R t1 q1).2) τ ++ juW aj J τ))) H := hP.pm (pm4_2 _ _ _ _).symm
  have hD : va_D A ([xoC x (ta 0) (aj 0) (me 0) sl sv (ad 0) (bd 0)] ++ (stW ad R τ ++ (stW bd ((aHang R t1 q1).2) τ ++ juW aj J τ))) := hD.pm (pm4_2 _ _ _ _).symm
  have hP_x := va_left hP
  have hP_s := va_left (va_right hP)
  have hP_t := va_left (va_right (va_right hP))
  have hP_j := va_right (va_right (va_right hP))
  refine tl_some ?_
  have hra := aHang_r hI t1 q1
  refine ru_S (As := [Value.int (iI ((aHang R t1 q1).1))]) (rest := []) ⟨hx, hb, hml, hown, hts⟩ (c_X9_mustBeAnswer l hst g τ ((aHang R t1 q1).1) ⟨by omega, by omega⟩) gX9_ifHung_X9_mustBeAnswer cd_X9_mustBeAnswer rfl ⟨rfl, rfl⟩ ⟨Nat.le_of_ble_eq_true rfl, Nat.le_of_ble_eq_true rfl⟩ hK hZT hZU hP hD hS (pm4_ _ _ _ _) rfl hl rfl (Nat.le_of_ble_eq_true rfl) dX9_ifHung_9 ⟨Nat.le_of_ble_eq_true rfl, Nat.le_of_ble_eq_true rfl⟩ (fun v w h => by rw [h.2.1]) (fun E w h => by rw [h.1]) (fun E w1 H locs q9 ce9 hZ hP hD hS a1 a2 a3 => ?_) (fun v w1 H locs hZ hP hD hS => ?_)
  · skip
    obtain ⟨rfl, hE⟩ := hZ
    have hP : va_P g vwCl ([xoC x (ta 0) (aj 0) (me 0) sl sv (ad 0) (bd 0)] ++ (stW ad R τ ++ (stW bd ((aHang R t1 q1).2) τ ++ juW aj J τ))) H := hP.pm (pm4_ _ _ _ _).symm
    exact u_out ht hlocks a1 a2 a3 hP hS ⟨Nat.le_of_ble_eq_true rfl, Nat.le_of_ble_eq_true rfl⟩ (⟨hE, _, _, hjb, hjs, rfl⟩)
  · skip
    obtain ⟨rfl, rfl, hm2, hm3, hm4⟩ := hZ
    have hP : va_P g vwCl ([xoC x (ta 0) (aj 0) (me 0) sl sv (ad 0) (bd 0)] ++ (stW ad R τ ++ (stW bd ((aHang R t1 q1).2) τ ++ juW aj J τ))) H := hP.pm (pm4_ _ _ _ _).symm
    have hD : va_D A ([xoC x (ta 0) (aj 0) (me 0) sl sv (ad 0) (bd 0)] ++ (stW ad R τ ++ (stW bd ((aHang R t1 q1).2) τ ++ juW aj J τ))) := hD.pm (pm4_ _ _ _ _).symm
    have hP_x := va_left hP
    have hP_s := va_left (va_right hP)
    have hP_t := va_left (va_right (va_right hP))
    have hP_j := va_right (va_right (va_right hP))
    refine tl_none ?_
    refine lv_aload_n hx hb dX9_ifHung_12 rfl (lv_at hl 0 rfl) ?_
    refine va_get (D := g) (ci := 9) (v := Value.ref (aj 0)) (C := RX9) (T := TX9) (N := 7) hx hb hts in_X9_ifHung_X9 hown hK.1 hP_x 0 (rfl) rfl 1 (by decide) (hts _ (List.mem_of_getElem? (i := 1) rfl) : (Cond.fieldLink RX9 19 "CordSeals" "judge" "LCordSeals$Judge;").before _ s = true) (fun _ h9 => h9) rfl dX9_ifHung_13 ?_
    refine lv_aload_n hx hb dX9_ifHung_16 rfl (lv_at hl 0 rfl) ?_
    refine va_get (D := g) (ci := 9) (v := Value.ref (bd 0)) (C := RX9) (T := TX9) (N := 7) hx hb hts in_X9_ifHung_X9 hown hK.1 hP_x 0 (rfl) rfl 6 (by decide) (hts _ (List.mem_of_getElem? (i := 2) rfl) : (Cond.fieldLink RX9 45 "CordSeals" "trial" "LCordSeals$State;").before _ s = true) (fun _ h9 => h9) rfl dX9_ifHung_17 ?_
    have hok := aHang_ok hm2
    refine rq_V (As := [Value.ref (bd 0)]) (rest := []) ⟨hx, hb, hml, hown, hts⟩ (c_X1_look l g τ bd aj ((aHang R t1 q1).2) J (SI_aHang hI t1 q1) hjb hjs) gX9_ifHung_X1_look cd_X1_look rfl rfl ⟨rfl, rfl⟩ ⟨Nat.le_of_ble_eq_true rfl, Nat.le_of_ble_eq_true rfl⟩ hK hP hD hS (pm4_32 _ _ _ _) 0 rfl rfl rfl rfl hl rfl (Nat.le_of_ble_eq_true rfl) dX9_ifHung_20 ⟨Nat.le_of_ble_eq_true rfl, Nat.le_of_ble_eq_true rfl⟩ (fun v w h => by rw [h.2]; exact f_ju aj bd _ _ _ _) (fun v w1 H locs hZ hP hD hS => ?_)
    obtain ⟨rfl, rfl⟩ := hZ
    have hP : va_P g vwCl ([xoC x (ta 0) (aj 0) (me 0) sl sv (ad 0) (bd 0)] ++ (stW ad R τ ++ (stW bd ((aHang R t1 q1).2) τ ++ juW aj (seeJ ((aHang R t1 q1).2) J) τ))) H := hP.pm (pm4_32 _ _ _ _).symm
    have hD : va_D A ([xoC x (ta 0) (aj 0) (me 0) sl sv (ad 0) (bd 0)] ++ (stW ad R τ ++ (stW bd ((aHang R t1 q1).2) τ ++ juW aj (seeJ ((aHang R t1 q1).2) J) τ))) := hD.pm (pm4_32 _ _ _ _).symm
    obtain ⟨J1, hjb1, hjs1, hse1, hje⟩ : ∃ J9, HB J9 ∧ JSp J9 ∧ SEE ((aHang R t1 q1).2) J9 6 ∧ seeJ ((aHang R t1 q1).2) J = J9 := ⟨_, (see_ok (SI_aHang hI t1 q1) hjb hjs).1, (see_ok (SI_aHang hI t1 q1) hjb hjs).2, SEE_see (SI_aHang hI t1 q1) J, rfl⟩
    rw [hje] at hP hD
    have hP_x := va_left hP
    have hP_s := va_left (va_right hP)
    have hP_t := va_left (va_right (va_right hP))
    have hP_j := va_right (va_right (va_right hP))
    refine tl_none ?_
    obtain ⟨e0, e1, e2⟩ := hse1.2 q1.toNat (by omega)
    have ec : ((q1.toNat : Nat) : Int) = q1 := by omega
    rw [ec] at e0 e1 e2
    have hTI := SI_aHang hI t1 q1
    have hB := hTI.hB
    have hr2 := hTI.r
    refine lv_aload_n hx hb dX9_ifHung_23 rfl (lv_at hl 0 rfl) ?_
    refine va_get (D := g) (ci := 9) (v := Value.ref (aj 0)) (C := RX9) (T := TX9) (N := 7) hx hb hts in_X9_ifHung_X9 hown hK.1 hP_x 0 (rfl) rfl 1 (by decide) (hts _ (List.mem_of_getElem? (i := 1) rfl) : (Cond.fieldLink RX9 19 "CordSeals" "judge" "LCordSeals$Judge;").before _ s = true) (fun _ h9 => h9) rfl dX9_ifHung_24 ?_
    refine va_get (D := g) (ci := 1) (v := Value.ref (aj 2)) (C := RX1) (T := TX1) (N := 6) hx hb hts in_X9_ifHung_X1 hown hK.1 hP_j 0 (rfl) rfl 1 (by decide) (hts _ (List.mem_of_getElem? (i := 3) rfl) : (Cond.fieldLink RX9 238 "CordSeals$Judge" "ofCharters" "[LCordSeals$Years;").before _ s = true) (fun _ h9 => h9) rfl dX9_ifHung_27 ?_
    refine lv_iload_n hx hb dX9_ifHung_30 rfl (lv_at hl 2 rfl) ?_
    refine zq_ald hx hb hK hP_j 2 3 (C := RX8) (f := (fun i => some (aj (10 + (24 + i))))) (rfl) rfl ((q1).toNat) (by omega) (by omega) (by decide) (rfl) dX9_ifHung_31 ?_
    refine lv_aload_n hx hb dX9_ifHung_32 rfl (lv_at hl 0 rfl) ?_
    refine va_get (D := g) (ci := 9) (v := Value.ref (bd 0)) (C := RX9) (T := TX9) (N := 7) hx hb hts in_X9_ifHung_X9 hown hK.1 hP_x 0 (rfl) rfl 6 (by decide) (hts _ (List.mem_of_getElem? (i := 2) rfl) : (Cond.fieldLink RX9 45 "CordSeals" "trial" "LCordSeals$State;").before _ s = true) (fun _ h9 => h9) rfl dX9_ifHung_33 ?_
    refine va_get (D := g) (ci := 6) (v := Value.ref (bd 1)) (C := RX6) (T := TX6) (N := 5) hx hb hts in_X9_ifHung_X6 hown hK.1 hP_t 0 (rfl) rfl 0 (by decide) (hts _ (List.mem_of_getElem? (i := 4) rfl) : (Cond.fieldLink RX9 93 "CordSeals$State" "reigns" "LCordSeals$Reigns;").before _ s = true) (fun _ h9 => h9) rfl dX9_ifHung_36 ?_
    have hj_0 := hjb1 0 (24 + (q1).toNat)
    have hj_1 := hjb1 1 (24 + (q1).toNat)
    have hj_2 := hjb1 2 (24 + (q1).toNat)
    have hj_3 := hjs1 (24 + (q1).toNat) (by omega)
    refine ro_V (As := [Value.ref (bd 1)]) (rest := []) (v := some (Value.int (iI (yCount ((aHang R t1 q1).2) (((aHang R t1 q1).2) 1 0).toNat (J1 0 (24 + (q1).toNat)) (J1 1 (24 + (q1).toNat)) (J1 2 (24 + (q1).toNat)) ((((aHang R t1 q1).2) 1 0).toNat + 1))))) ⟨hx, hb, hml, hown, hts⟩ (c_X8_count l g τ (aj (10 + (24 + (q1).toNat))) (J1 0 (24 + (q1).toNat)) (J1 1 (24 + (q1).toNat)) (J1 2 (24 + (q1).toNat)) ⟨by omega, by omega⟩ ⟨by omega, by omega⟩ ⟨by omega, by omega⟩ bd ((aHang R t1 q1).2) hB (((aHang R t1 q1).2) 1 0).toNat (by omega) (by omega)) gX9_ifHung_X8_count cd_X8_count rfl rfl ⟨rfl, rfl⟩ ⟨Nat.le_of_ble_eq_true rfl, Nat.le_of_ble_eq_true rfl⟩ hK ((y1 hP_j (by omega)).app (hP_t.sub [1, 2, 3] rfl)) 0 rfl rfl rfl rfl hl rfl (Nat.le_of_ble_eq_true rfl) dX9_ifHung_39 ⟨Nat.le_of_ble_eq_true rfl, Nat.le_of_ble_eq_true rfl⟩ ?_
    refine tl_some ?_
    refine cv_i (y := iI (rCh (aHang R t1 q1).2 q1 (-1) 2)) (congrArg iI (by rw [e0, e1, e2]; exact (ch_eq hTI q1 (-1)).2.2)) ?_
    exact u_iret hx hb hr hlocks hP hS ⟨Nat.le_of_ble_eq_true rfl, Nat.le_of_ble_eq_true rfl⟩ (⟨by omega, rfl, _, _, hjb1, hjs1, rfl⟩) dX9_ifHung_42

theorem cd_X9_leastBubbles : cd yX9_leastBubbles 2 := by decide +kernel
theorem in_X9_leastBubbles_X9 : ∀ w ∈ wsX90, w ∈ wsX9_leastBubbles := by decide +kernel
set_option maxHeartbeats 4000000 in
set_option maxRecDepth 100000 in
theorem c_X9_leastBubbles (l : Launch) (hst : l.stackTraces = false) (g : va_G) (τ : Nat → ClassId) (x sl sv : Nat) (ta aj me ad bd : Nat → Nat) (R T : Nat → Nat → Int) (hI : SI R) (J : Nat → Nat → Int) (hjb : HB J) (hjs : JSp J) (z1 : Int) (rz1 : -2147483648 ≤ z1 ∧ z1 < 2147483648) (k1 : Int) (rk1 : -2147483648 ≤ k1 ∧ k1 < 2147483648)  : uMet l yX9_leastBubbles wsX9_leastBubbles { frames := 7, cells := 1, slots := 6, locals := 110 } g τ [Value.ref x, Value.int (iI z1), Value.int (iI k1)] ([xoC x (ta 0) (aj 0) (me 0) sl sv (ad 0) (bd 0)] ++ (stW ad R τ ++ (stW bd T τ ++ juW aj J τ))) (fun v w => ((0 ≤ z1 ∧ z1 ≤ 1) ∧ 0 ≤ k1) ∧ v = some (Value.int (iI (lbN R z1.toNat k1))) ∧ ∃ T2 J2, HB J2 ∧ JSp J2 ∧ w = [xoC x (ta 0) (aj 0) (me 0) sl sv (ad 0) (bd 0)] ++ (stW ad R τ ++ (stW bd T2 τ ++ juW aj J2 τ))) (fun E w => ¬ ((0 ≤ z1 ∧ z1 ≤ 1) ∧ 0 ≤ k1) ∧ E = "java/lang/IllegalArgumentException" ∧ w = [xoC x (ta 0) (aj 0) (me 0) sl sv (ad 0) (bd 0)] ++ (stW ad R τ ++ (stW bd T τ ++ juW aj J τ))) := by
  have hB := hI.hB
  have hr0 := hI.r
  have hd0 := hI.d
  have hs0 := hI.s
  have hN := hI.hN
  refine uMet_of (cc := cX9_leastBubbles) (maxL := 4) (ret := (some .int)) (lv := [(0, Value.ref x), (1, Value.int (iI z1)), (2, Value.int (iI k1))]) (by decide) rfl (Nat.le_of_ble_eq_true rfl) rfl ?_
  intro p e s m below meth c hx hb hr hml hts hown hlocks ht A H hP hD hS hK hZT hZU ls hl
  have hP_x := va_left hP
  have hP_s := va_left (va_right hP)
  have hP_t := va_left (va_right (va_right hP))
  have hP_j := va_right (va_right (va_right hP))
  refine lv_iload_n hx hb dX9_leastBubbles_0 rfl (lv_at hl 1 rfl) ?_
  refine ro_S (As := [Value.int (iI z1)]) (rest := []) (v := some (Value.int (iI (zB (decide (0 ≤ z1 ∧ z1 < 2)))))) ⟨hx, hb, hml, hown, hts⟩ (c_X9_isMaterial l g τ z1 ⟨by omega, by omega⟩) gX9_leastBubbles_X9_isMaterial cd_X9_isMaterial rfl ⟨rfl, rfl⟩ ⟨Nat.le_of_ble_eq_true rfl, Nat.le_of_ble_eq_true rfl⟩ hK (fun _ _ h => nomatch h) rfl hl rfl (Nat.le_of_ble_eq_true rfl) dX9_leastBubbles_1 ⟨Nat.le_of_ble_eq_true rfl, Nat.le_of_ble_eq_true rfl⟩ ?_
  refine tl_some ?_
  refine zb_if_eq (tgt := 15) hx hb dX9_leastBubbles_4 (by decide) (fun c_1 => ?_) (fun c_1 => ?_)
  · have cd_c_1 := of_decide_eq_false c_1
    refine lv_iconst (v := iI 0) hx hb dX9_leastBubbles_15 (by decide) ?_
    refine xr_S (As := [Value.int (iI 0)]) (rest := []) ⟨hx, hb, hml, hown, hts⟩ (x_X9_mustFit l hst g τ) gX9_leastBubbles_X9_mustFit cd_X9_mustFit rfl ⟨rfl, rfl⟩ ⟨Nat.le_of_ble_eq_true rfl, Nat.le_of_ble_eq_true rfl⟩ hK hZT hZU hP hD hS [] rfl rfl rfl hl rfl (Nat.le_of_ble_eq_true rfl) dX9_leastBubbles_16 ⟨Nat.le_of_ble_eq_true rfl, Nat.le_of_ble_eq_true rfl⟩ (fun w1 h => by rw [h]) (fun w1 H locs q9 ce9 hZ hP hD hS a1 a2 a3 => ?_)
    subst hZ
    have hP : va_P g vwCl ([xoC x (ta 0) (aj 0) (me 0) sl sv (ad 0) (bd 0)] ++ (stW ad R τ ++ (stW bd T τ ++ juW aj J τ))) H := hP
    exact u_out ht hlocks a1 a2 a3 hP hS ⟨Nat.le_of_ble_eq_true rfl, Nat.le_of_ble_eq_true rfl⟩ (⟨by omega, rfl, rfl⟩)
  · have cd_c_1 := of_decide_eq_true c_1
    refine lv_iload_n hx hb dX9_leastBubbles_7 rfl (lv_at hl 2 rfl) ?_
    refine zi_if_lt (tgt := 15) hx hb ⟨by omega, by omega⟩ dX9_leastBubbles_8 (by decide) (fun c_2 => ?_) (fun c_2 => ?_)
    · have _ := c_2
      refine lv_iconst (v := iI 0) hx hb dX9_leastBubbles_15 (by decide) ?_
      refine xr_S (As := [Value.int (iI 0)]) (rest := []) ⟨hx, hb, hml, hown, hts⟩ (x_X9_mustFit l hst g τ) gX9_leastBubbles_X9_mustFit cd_X9_mustFit rfl ⟨rfl, rfl⟩ ⟨Nat.le_of_ble_eq_true rfl, Nat.le_of_ble_eq_true rfl⟩ hK hZT hZU hP hD hS [] rfl rfl rfl hl rfl (Nat.le_of_ble_eq_true rfl) dX9_leastBubbles_16 ⟨Nat.le_of_ble_eq_true rfl, Nat.le_of_ble_eq_true rfl⟩ (fun w1 h => by rw [h]) (fun w1 H locs q9 ce9 hZ hP hD hS a1 a2 a3 => ?_)
      subst hZ
      have hP : va_P g vwCl ([xoC x (ta 0) (aj 0) (me 0) sl sv (ad 0) (bd 0)] ++ (stW ad R τ ++ (stW bd T τ ++ juW aj J τ))) H := hP
      exact u_out ht hlocks a1 a2 a3 hP hS ⟨Nat.le_of_ble_eq_true rfl, Nat.le_of_ble_eq_true rfl⟩ (⟨by omega, rfl, rfl⟩)
    · have _ := c_2
      refine lv_iconst (v := iI 1) hx hb dX9_leastBubbles_11 (by decide) ?_
      refine lv_goto (tgt := 16) hx hb dX9_leastBubbles_12 (by decide) ?_
      refine ro_S (As := [Value.int (iI 1)]) (rest := []) (v := none) ⟨hx, hb, hml, hown, hts⟩ (c_X9_mustFit l g τ) gX9_leastBubbles_X9_mustFit cd_X9_mustFit rfl ⟨rfl, rfl⟩ ⟨Nat.le_of_ble_eq_true rfl, Nat.le_of_ble_eq_true rfl⟩ hK (fun _ _ h => nomatch h) rfl hl rfl (Nat.le_of_ble_eq_true rfl) dX9_leastBubbles_16 ⟨Nat.le_of_ble_eq_true rfl, Nat.le_of_ble_eq_true rfl⟩ ?_
      refine tl_none ?_
      refine lv_aload_n hx hb dX9_leastBubbles_19 rfl (lv_at hl 0 rfl) ?_
      refine rq_V (As := []) (rest := []) ⟨hx, hb, hml, hown, hts⟩ (c_X9_freshTrial l g τ x sl sv ta aj me ad bd R T) gX9_leastBubbles_X9_freshTrial cd_X9_freshTrial rfl rfl ⟨rfl, rfl⟩ ⟨Nat.le_of_ble_eq_true rfl, Nat.le_of_ble_eq_true rfl⟩ hK hP hD hS (pm4_012 _ _ _ _) 0 rfl rfl rfl rfl hl rfl (Nat.le_of_ble_eq_true rfl) dX9_leastBubbles_20 ⟨Nat.le_of_ble_eq_true rfl, Nat.le_of_ble_eq_true rfl⟩ (fun v w h => by rw [h.2]; exact f_xst _ _ _ _ _ _ _ _) (fun v w1 H locs hZ hP hD hS => ?_)
      obtain ⟨rfl, rfl⟩ := hZ
      have hP : va_P g vwCl ([xoC x (ta 0) (aj 0) (me 0) sl sv (ad 0) (bd 0)] ++ (stW ad R τ ++ (stW bd R τ ++ juW aj J τ))) H := hP.pm (pm4_012 _ _ _ _).symm
      have hD : va_D A ([xoC x (ta 0) (aj 0) (me 0) sl sv (ad 0) (bd 0)] ++ (stW ad R τ ++ (stW bd R τ ++ juW aj J τ))) := hD.pm (pm4_012 _ _ _ _).symm
      have hP_x := va_left hP
      have hP_s := va_left (va_right hP)
      have hP_t := va_left (va_right (va_right hP))
      have hP_j := va_right (va_right (va_right hP))
      refine tl_some ?_
      refine lv_pop hx hb dX9_leastBubbles_23 rfl ?_
      refine lv_aload_n hx hb dX9_leastBubbles_24 rfl (lv_at hl 0 rfl) ?_
      refine va_get (D := g) (ci := 9) (v := Value.ref (aj 0)) (C := RX9) (T := TX9) (N := 7) hx hb hts in_X9_leastBubbles_X9 hown hK.1 hP_x 0 (rfl) rfl 1 (by decide) (hts _ (List.mem_of_getElem? (i := 1) rfl) : (Cond.fieldLink RX9 19 "CordSeals" "judge" "LCordSeals$Judge;").before _ s = true) (fun _ h9 => h9) rfl dX9_leastBubbles_25 ?_
      refine lv_aload_n hx hb dX9_leastBubbles_28 rfl (lv_at hl 0 rfl) ?_
      refine va_get (D := g) (ci := 9) (v := Value.ref (bd 0)) (C := RX9) (T := TX9) (N := 7) hx hb hts in_X9_leastBubbles_X9 hown hK.1 hP_x 0 (rfl) rfl 6 (by decide) (hts _ (List.mem_of_getElem? (i := 2) rfl) : (Cond.fieldLink RX9 45 "CordSeals" "trial" "LCordSeals$State;").before _ s = true) (fun _ h9 => h9) rfl dX9_leastBubbles_29 ?_
      refine rq_V (As := [Value.ref (bd 0)]) (rest := []) ⟨hx, hb, hml, hown, hts⟩ (c_X1_date l g τ bd aj R J hI hjb) gX9_leastBubbles_X1_date cd_X1_date rfl rfl ⟨rfl, rfl⟩ ⟨Nat.le_of_ble_eq_true rfl, Nat.le_of_ble_eq_true rfl⟩ hK hP hD hS (pm4_32 _ _ _ _) 0 rfl rfl rfl rfl hl rfl (Nat.le_of_ble_eq_true rfl) dX9_leastBubbles_32 ⟨Nat.le_of_ble_eq_true rfl, Nat.le_of_ble_eq_true rfl⟩ (fun v w h => by rw [h.2]; exact f_ju aj bd _ _ _ _) (fun v w1 H locs hZ hP hD hS => ?_)
      obtain ⟨rfl, rfl⟩ := hZ
      have hP : va_P g vwCl ([xoC x (ta 0) (aj 0) (me 0) sl sv (ad 0) (bd 0)] ++ (stW ad R τ ++ (stW bd R τ ++ juW aj (dateJ R J (R 10 0).toNat) τ))) H := hP.pm (pm4_32 _ _ _ _).symm
      have hD : va_D A ([xoC x (ta 0) (aj 0) (me 0) sl sv (ad 0) (bd 0)] ++ (stW ad R τ ++ (stW bd R τ ++ juW aj (dateJ R J (R 10 0).toNat) τ))) := hD.pm (pm4_32 _ _ _ _).symm
      obtain ⟨J1, hjb1, hjs1, hdt1, hje⟩ : ∃ J1, HB J1 ∧ JSp J1 ∧ DT R J1 ∧ dateJ R J (R 10 0).toNat = J1 := ⟨_, (date_ok hI hjb hjs _).1, (date_ok hI hjb hjs _).2, DT_date hI J, rfl⟩
      rw [hje] at hP hD
      have hP_x := va_left hP
      have hP_s := va_left (va_right hP)
      have hP_t := va_left (va_right (va_right hP))
      have hP_j := va_right (va_right (va_right hP))
      refine tl_none ?_
      refine lv_iconst (v := iI 0) hx hb dX9_leastBubbles_35 (by decide) ?_
      refine lv_istore_n (lv' := [(3, Value.int (iI 0)), (0, Value.ref x), (1, Value.int (iI z1)), (2, Value.int (iI k1))]) hx hb dX9_leastBubbles_36 rfl hl (by decide) rfl (fun ls hl => ?_)
      have hP : va_P g vwCl ([xoC x (ta 0) (aj 0) (me 0) sl sv (ad 0) (bd 0)] ++ (stW ad R τ ++ (stW bd (u2 R 20 (updZ (R 20) z1.toNat (R 20 z1.toNat))) τ ++ juW aj J1 τ))) H := by rw [u2_sid]; exact hP
      have hD : va_D A ([xoC x (ta 0) (aj 0) (me 0) sl sv (ad 0) (bd 0)] ++ (stW ad R τ ++ (stW bd (u2 R 20 (updZ (R 20) z1.toNat (R 20 z1.toNat))) τ ++ juW aj J1 τ))) := by rw [u2_sid]; exact hD
      refine lp_upX (fun i => [(3, Value.int (iI (i : Int))), (0, Value.ref x), (1, Value.int (iI z1)), (2, Value.int (iI k1))]) (fun i (X : (Nat → Nat → Int) × Int) => [xoC x (ta 0) (aj 0) (me 0) sl sv (ad 0) (bd 0)] ++ (stW ad R τ ++ (stW bd (u2 R 20 (updZ (R 20) z1.toNat X.2)) τ ++ juW aj X.1 τ))) (fun i (X : (Nat → Nat → Int) × Int) => HB X.1 ∧ JSp X.1 ∧ DT R X.1 ∧ (0 ≤ X.2 ∧ X.2 ≤ 99) ∧ ∀ j, j < i → (fun v => mayT R z1.toNat v && lbP R z1.toNat k1 v) j = false) (100) (0) (J1, R 20 z1.toNat) (by omega) hP hD hS (⟨hjb1, hjs1, hdt1, (by have := hI.w; have hz9 : z1.toNat = 0 ∨ z1.toNat = 1 := (by omega); show 0 ≤ R 20 z1.toNat ∧ R 20 z1.toNat ≤ 99; rcases hz9 with h9 | h9 <;> rw [h9] <;> omega), fun j hj => by omega⟩) (lv_eq (lv_sub hl [0, 1, 2, 3] rfl) (by show [(3, Value.int (iI 0)), (0, Value.ref x), (1, Value.int (iI z1)), (2, Value.int (iI k1))] = [(3, Value.int (iI 0)), (0, Value.ref x), (1, Value.int (iI z1)), (2, Value.int (iI k1))]; rfl)) (fun i h0_i hi_i X hJ_i ih_37 H locs hP hD hS ls hl => ?_)
      obtain ⟨J2, z2⟩ := X
      have hP : va_P g vwCl ([xoC x (ta 0) (aj 0) (me 0) sl sv (ad 0) (bd 0)] ++ (stW ad R τ ++ (stW bd (u2 R 20 (updZ (R 20) z1.toNat z2)) τ ++ juW aj J2 τ))) H := hP
      have hD : va_D A ([xoC x (ta 0) (aj 0) (me 0) sl sv (ad 0) (bd 0)] ++ (stW ad R τ ++ (stW bd (u2 R 20 (updZ (R 20) z1.toNat z2)) τ ++ juW aj J2 τ))) := hD
      have hJ_i : HB J2 ∧ JSp J2 ∧ DT R J2 ∧ (0 ≤ z2 ∧ z2 ≤ 99) ∧ ∀ j, j < i → (fun v => mayT R z1.toNat v && lbP R z1.toNat k1 v) j = false := hJ_i
      have hP_x := va_left hP
      have hP_s := va_left (va_right hP)
      have hP_t := va_left (va_right (va_right hP))
      have hP_j := va_right (va_right (va_right hP))
      refine lv_iload_n hx hb dX9_leastBubbles_37 rfl (lv_at hl 0 rfl) ?_
      refine lv_bipush (v := iI 99) hx hb dX9_leastBubbles_38 (by decide) ?_
      refine zi_icmp_gt (tgt := 70) hx hb ⟨by omega, by omega⟩ ⟨by decide, by decide⟩ dX9_leastBubbles_40 (by decide) (fun c_3 => ?_) (fun c_3 => ?_)
      · have _ := c_3
        have h0_i : i = 100 := by omega
        refine lv_iconst (v := iI (-1)) hx hb dX9_leastBubbles_70 (by decide) ?_
        exact u_iret hx hb hr hlocks hP hS ⟨Nat.le_of_ble_eq_true rfl, Nat.le_of_ble_eq_true rfl⟩ (⟨⟨⟨by omega, by omega⟩, by omega⟩, by (have hf := fst_none (p := (fun v => mayT R z1.toNat v && lbP R z1.toNat k1 v)) (n := 100) (fun j hj => hJ_i.2.2.2.2 j (by omega))); rw [lb_eq hI] at hf; show _ = some (Value.int (iI (lbN R z1.toNat k1))); rw [lbN, hf, if_neg (by omega)], _, _, hJ_i.1, hJ_i.2.1, rfl⟩) dX9_leastBubbles_71
      · have _ := c_3
        have hl_i : i < 100 := by omega
        refine lv_aload_n hx hb dX9_leastBubbles_43 rfl (lv_at hl 1 rfl) ?_
        refine lv_iload_n hx hb dX9_leastBubbles_44 rfl (lv_at hl 2 rfl) ?_
        refine cv_i (y := iI ((z1.toNat : Nat) : Int)) (congrArg iI (by omega)) ?_
        refine lv_iload_n hx hb dX9_leastBubbles_45 rfl (lv_at hl 0 rfl) ?_
        refine ro_V (As := [Value.int (iI ((z1.toNat : Nat) : Int)), Value.int (iI (i : Int))]) (rest := []) (v := some (Value.int (iI (zB (mayT R z1.toNat i))))) ⟨hx, hb, hml, hown, hts⟩ (c_X9_mayTellMore l g τ x sl sv ta aj me ad bd (u2 R 20 (updZ (R 20) z1.toNat z2)) (SI_set hI (a := z1.toNat) (v := z2) (by omega) hJ_i.2.2.2.1) z1.toNat i (by omega) (by omega)) gX9_leastBubbles_X9_mayTellMore cd_X9_mayTellMore rfl rfl ⟨rfl, rfl⟩ ⟨Nat.le_of_ble_eq_true rfl, Nat.le_of_ble_eq_true rfl⟩ hK (hP_x.app hP_t) 0 rfl rfl rfl rfl hl rfl (Nat.le_of_ble_eq_true rfl) dX9_leastBubbles_46 ⟨Nat.le_of_ble_eq_true rfl, Nat.le_of_ble_eq_true rfl⟩ ?_
        refine tl_some ?_
        refine zb_if_eq (tgt := 64) hx hb dX9_leastBubbles_49 (by decide) (fun c_4 => ?_) (fun c_4 => ?_)
        · have _ := c_4
          refine zi_inc (v := ((i + 1 : Nat) : Int)) (lv' := [(3, Value.int (iI ((i + 1 : Nat) : Int))), (0, Value.ref x), (1, Value.int (iI z1)), (2, Value.int (iI k1))]) hx hb dX9_leastBubbles_64 hl (k := 0) rfl (by omega) (by decide) rfl (fun ls hl => ?_)
          refine lv_goto (tgt := 37) hx hb dX9_leastBubbles_67 (by decide) ?_
          have hb_5 : (((i + 1) : Nat) : Int) = ((i + 1 : Nat) : Int) := by first | rfl | omega
          exact ih_37 hl_i (J2, z2) (⟨hJ_i.1, hJ_i.2.1, hJ_i.2.2.1, hJ_i.2.2.2.1, lt_step hJ_i.2.2.2.2 (by show (_ && _) = false; rw [show mayT R z1.toNat i = false from by assumption, Bool.false_and])⟩) _ _ _ hP hD hS (lv_eq (lv_sub hl [0, 1, 2, 3] rfl) (by show [(3, Value.int (iI (((i + 1) : Nat) : Int))), (0, Value.ref x), (1, Value.int (iI z1)), (2, Value.int (iI k1))] = [(3, Value.int (iI ((i + 1 : Nat) : Int))), (0, Value.ref x), (1, Value.int (iI z1)), (2, Value.int (iI k1))]; rw [hb_5]))
        · have _ := c_4
          refine lv_aload_n hx hb dX9_leastBubbles_52 rfl (lv_at hl 1 rfl) ?_
          refine lv_iload_n hx hb dX9_leastBubbles_53 rfl (lv_at hl 2 rfl) ?_
          refine cv_i (y := iI ((z1.toNat : Nat) : Int)) (congrArg iI (by omega)) ?_
          refine lv_iload_n hx hb dX9_leastBubbles_54 rfl (lv_at hl 0 rfl) ?_
          refine rq_V (As := [Value.int (iI ((z1.toNat : Nat) : Int)), Value.int (iI (i : Int))]) (rest := []) ⟨hx, hb, hml, hown, hts⟩ (c_X9_fakesWith l g τ x sl sv ta aj me ad bd (u2 R 20 (updZ (R 20) z1.toNat z2)) (SI_set hI (a := z1.toNat) (v := z2) (by omega) hJ_i.2.2.2.1) J2 hJ_i.1 hJ_i.2.1 (DT_20.mpr hJ_i.2.2.1) z1.toNat i (by omega) (by omega)) gX9_leastBubbles_X9_fakesWith cd_X9_fakesWith rfl rfl ⟨rfl, rfl⟩ ⟨Nat.le_of_ble_eq_true rfl, Nat.le_of_ble_eq_true rfl⟩ hK hP hD hS (pm4_023 _ _ _ _) 0 rfl rfl rfl rfl hl rfl (Nat.le_of_ble_eq_true rfl) dX9_leastBubbles_55 ⟨Nat.le_of_ble_eq_true rfl, Nat.le_of_ble_eq_true rfl⟩ (fun v w h => by obtain ⟨-, J9, -, -, -, rfl⟩ := h; exact f_xtj _ _ _ _ _ _ _ _) (fun v w1 H locs hZ hP hD hS => ?_)
          obtain ⟨rfl, J3, hjb3, hjs3, hdt3, rfl⟩ := hZ
          rw [lb_u2] at hP hD ⊢
          have hP : va_P g vwCl ([xoC x (ta 0) (aj 0) (me 0) sl sv (ad 0) (bd 0)] ++ (stW ad R τ ++ (stW bd (u2 R 20 (updZ (R 20) z1.toNat (i : Int))) τ ++ juW aj J3 τ))) H := hP.pm (pm4_023 _ _ _ _).symm
          have hD : va_D A ([xoC x (ta 0) (aj 0) (me 0) sl sv (ad 0) (bd 0)] ++ (stW ad R τ ++ (stW bd (u2 R 20 (updZ (R 20) z1.toNat (i : Int))) τ ++ juW aj J3 τ))) := hD.pm (pm4_023 _ _ _ _).symm
          have hP_x := va_left hP
          have hP_s := va_left (va_right hP)
          have hP_t := va_left (va_right (va_right hP))
          have hP_j := va_right (va_right (va_right hP))
          refine tl_some ?_
          have hfw := rFks_b (u2 R 20 (updZ (R 20) z1.toNat (i : Int))) (R 10 0).toNat
          refine cv_i (y := iI (rFks (u2 R 20 (updZ (R 20) z1.toNat (i : Int))) (R 10 0).toNat)) (rfl) ?_
          refine lv_iload_n hx hb dX9_leastBubbles_58 rfl (lv_at hl 3 rfl) ?_
          refine zi_icmp_gt (tgt := 64) hx hb ⟨by omega, by omega⟩ ⟨by omega, by omega⟩ dX9_leastBubbles_59 (by decide) (fun c_6 => ?_) (fun c_6 => ?_)
          · have _ := c_6
            refine zi_inc (v := ((i + 1 : Nat) : Int)) (lv' := [(3, Value.int (iI ((i + 1 : Nat) : Int))), (0, Value.ref x), (1, Value.int (iI z1)), (2, Value.int (iI k1))]) hx hb dX9_leastBubbles_64 hl (k := 0) rfl (by omega) (by decide) rfl (fun ls hl => ?_)
            refine lv_goto (tgt := 37) hx hb dX9_leastBubbles_67 (by decide) ?_
            have hb_7 : (((i + 1) : Nat) : Int) = ((i + 1 : Nat) : Int) := by first | rfl | omega
            exact ih_37 hl_i (J3, (i : Int)) (⟨hjb3, hjs3, DT_20.mp hdt3, ⟨by omega, by omega⟩, lt_step hJ_i.2.2.2.2 (by have hb9 : lbP R z1.toNat k1 i = false := decide_eq_false (by show ¬ rFks (u2 R 20 (updZ (R 20) z1.toNat (i : Int))) (R 10 0).toNat ≤ k1; omega); show (_ && _) = false; rw [hb9, Bool.and_false])⟩) _ _ _ hP hD hS (lv_eq (lv_sub hl [0, 1, 2, 3] rfl) (by show [(3, Value.int (iI (((i + 1) : Nat) : Int))), (0, Value.ref x), (1, Value.int (iI z1)), (2, Value.int (iI k1))] = [(3, Value.int (iI ((i + 1 : Nat) : Int))), (0, Value.ref x), (1, Value.int (iI z1)), (2, Value.int (iI k1))]; rw [hb_7]))
          · have _ := c_6
            refine lv_iload_n hx hb dX9_leastBubbles_62 rfl (lv_at hl 0 rfl) ?_
            exact u_iret hx hb hr hlocks hP hS ⟨Nat.le_of_ble_eq_true rfl, Nat.le_of_ble_eq_true rfl⟩ (⟨⟨⟨by omega, by omega⟩, by omega⟩, by (have hf := fst_some (p := (fun v => mayT R z1.toNat v && lbP R z1.toNat k1 v)) hJ_i.2.2.2.2 (i := i) (by (have hb9 : lbP R z1.toNat k1 i = true := decide_eq_true (by show rFks (u2 R 20 (updZ (R 20) z1.toNat (i : Int))) (R 10 0).toNat ≤ k1; omega)); (have hm9 : mayT R z1.toNat i = true := by assumption); show (_ && _) = true; rw [hb9, hm9]; rfl) hl_i (n := 100)); rw [lb_eq hI] at hf; show _ = some (Value.int (iI (lbN R z1.toNat k1))); rw [lbN, hf, if_pos hl_i], _, _, hjb3, hjs3, rfl⟩) dX9_leastBubbles_63

theorem cd_X9_runScript : cd yX9_runScript 2 := by decide +kernel
set_option maxHeartbeats 4000000 in
set_option maxRecDepth 100000 in
theorem c_X9_runScript (l : Launch) (hst : l.stackTraces = false) (g : va_G) (τ : Nat → ClassId) (x sl sv : Nat) (ta aj me ad bd : Nat → Nat) (R T : Nat → Nat → Int) (hI : SI R) (J : Nat → Nat → Int) (hjb : HB J) (hjs : JSp J) (k1 : Int) (rk1 : -2147483648 ≤ k1 ∧ k1 < 2147483648) (z1 : Int) (hz1 : rngl z1)  : uMet l yX9_runScript wsX9_runScript { frames := 7, cells := 1, slots := 6, locals := 153 } g τ [Value.ref x, Value.int (iI k1), Value.long (iL z1)] ([xoC x (ta 0) (aj 0) (me 0) sl sv (ad 0) (bd 0)] ++ (stW ad R τ ++ (stW bd T τ ++ juW aj J τ))) (fun v w => ((1 ≤ k1 ∧ k1 ≤ 3) ∧ 0 ≤ z1 ∧ z1 ≤ 10 ^ (6 * k1.toNat) - 1) ∧ v = some (Value.int (iI (qRunN R k1.toNat z1))) ∧ ∃ T2 J2, HB J2 ∧ JSp J2 ∧ w = [xoC x (ta 0) (aj 0) (me 0) sl sv (ad 0) (bd 0)] ++ (stW ad R τ ++ (stW bd T2 τ ++ juW aj J2 τ))) (fun E w => ¬ ((1 ≤ k1 ∧ k1 ≤ 3) ∧ 0 ≤ z1 ∧ z1 ≤ 10 ^ (6 * k1.toNat) - 1) ∧ E = "java/lang/IllegalArgumentException" ∧ w = [xoC x (ta 0) (aj 0) (me 0) sl sv (ad 0) (bd 0)] ++ (stW ad R τ ++ (stW bd T τ ++ juW aj J τ))) := by
  have hB := hI.hB
  have hr0 := hI.r
  have hd0 := hI.d
  have hs0 := hI.s
  have hN := hI.hN
  have hz2 : -9223372036854775808 ≤ z1 ∧ z1 < 9223372036854775808 := hz1
  refine uMet_of (cc := cX9_runScript) (maxL := 7) (ret := (some .int)) (lv := [(0, Value.ref x), (1, Value.int (iI k1)), (2, Value.long (iL z1))]) (by decide) rfl (Nat.le_of_ble_eq_true rfl) rfl ?_
  intro p e s m below meth c hx hb hr hml hts hown hlocks ht A H hP hD hS hK hZT hZU ls hl
  have hP_x := va_left hP
  have hP_s := va_left (va_right hP)
  have hP_t := va_left (va_right (va_right hP))
  have hP_j := va_right (va_right (va_right hP))
  refine lv_iload_n hx hb dX9_runScript_0 rfl (lv_at hl 1 rfl) ?_
  refine lv_iconst (v := iI 1) hx hb dX9_runScript_1 (by decide) ?_
  refine zi_icmp_lt (tgt := 14) hx hb ⟨by omega, by omega⟩ ⟨by decide, by decide⟩ dX9_runScript_2 (by decide) (fun c_1 => ?_) (fun c_1 => ?_)
  · have _ := c_1
    refine lv_iconst (v := iI 0) hx hb dX9_runScript_14 (by decide) ?_
    refine xr_S (As := [Value.int (iI 0)]) (rest := []) ⟨hx, hb, hml, hown, hts⟩ (x_X9_mustFit l hst g τ) gX9_runScript_X9_mustFit cd_X9_mustFit rfl ⟨rfl, rfl⟩ ⟨Nat.le_of_ble_eq_true rfl, Nat.le_of_ble_eq_true rfl⟩ hK hZT hZU hP hD hS [] rfl rfl rfl hl rfl (Nat.le_of_ble_eq_true rfl) dX9_runScript_15 ⟨Nat.le_of_ble_eq_true rfl, Nat.le_of_ble_eq_true rfl⟩ (fun w1 h => by rw [h]) (fun w1 H locs q9 ce9 hZ hP hD hS a1 a2 a3 => ?_)
    subst hZ
    have hP : va_P g vwCl ([xoC x (ta 0) (aj 0) (me 0) sl sv (ad 0) (bd 0)] ++ (stW ad R τ ++ (stW bd T τ ++ juW aj J τ))) H := hP
    exact u_out ht hlocks a1 a2 a3 hP hS ⟨Nat.le_of_ble_eq_true rfl, Nat.le_of_ble_eq_true rfl⟩ (⟨by omega, rfl, rfl⟩)
  · have _ := c_1
    refine lv_iload_n hx hb dX9_runScript_5 rfl (lv_at hl 1 rfl) ?_
    refine lv_iconst (v := iI 3) hx hb dX9_runScript_6 (by decide) ?_
    refine zi_icmp_gt (tgt := 14) hx hb ⟨by omega, by omega⟩ ⟨by decide, by decide⟩ dX9_runScript_7 (by decide) (fun c_2 => ?_) (fun c_2 => ?_)
    · have _ := c_2
      refine lv_iconst (v := iI 0) hx hb dX9_runScript_14 (by decide) ?_
      refine xr_S (As := [Value.int (iI 0)]) (rest := []) ⟨hx, hb, hml, hown, hts⟩ (x_X9_mustFit l hst g τ) gX9_runScript_X9_mustFit cd_X9_mustFit rfl ⟨rfl, rfl⟩ ⟨Nat.le_of_ble_eq_true rfl, Nat.le_of_ble_eq_true rfl⟩ hK hZT hZU hP hD hS [] rfl rfl rfl hl rfl (Nat.le_of_ble_eq_true rfl) dX9_runScript_15 ⟨Nat.le_of_ble_eq_true rfl, Nat.le_of_ble_eq_true rfl⟩ (fun w1 h => by rw [h]) (fun w1 H locs q9 ce9 hZ hP hD hS a1 a2 a3 => ?_)
      subst hZ
      have hP : va_P g vwCl ([xoC x (ta 0) (aj 0) (me 0) sl sv (ad 0) (bd 0)] ++ (stW ad R τ ++ (stW bd T τ ++ juW aj J τ))) H := hP
      exact u_out ht hlocks a1 a2 a3 hP hS ⟨Nat.le_of_ble_eq_true rfl, Nat.le_of_ble_eq_true rfl⟩ (⟨by omega, rfl, rfl⟩)
    · have _ := c_2
      refine lv_iconst (v := iI 1) hx hb dX9_runScript_10 (by decide) ?_
      refine lv_goto (tgt := 15) hx hb dX9_runScript_11 (by decide) ?_
      refine ro_S (As := [Value.int (iI 1)]) (rest := []) (v := none) ⟨hx, hb, hml, hown, hts⟩ (c_X9_mustFit l g τ) gX9_runScript_X9_mustFit cd_X9_mustFit rfl ⟨rfl, rfl⟩ ⟨Nat.le_of_ble_eq_true rfl, Nat.le_of_ble_eq_true rfl⟩ hK (fun _ _ h => nomatch h) rfl hl rfl (Nat.le_of_ble_eq_true rfl) dX9_runScript_15 ⟨Nat.le_of_ble_eq_true rfl, Nat.le_of_ble_eq_true rfl⟩ ?_
      refine tl_none ?_
      refine lv_lconst (v := 1) hx hb dX9_runScript_18 (by decide) ?_
      refine cv_l (y := iL 1) (by decide) ?_
      refine lv_lstore (lv' := [(4, Value.long (iL 1)), (0, Value.ref x), (1, Value.int (iI k1)), (2, Value.long (iL z1))]) hx hb dX9_runScript_19 hl (by decide) rfl (fun ls hl => ?_)
      refine lv_iconst (v := iI 0) hx hb dX9_runScript_21 (by decide) ?_
      refine lv_istore (lv' := [(6, Value.int (iI 0)), (4, Value.long (iL 1)), (0, Value.ref x), (1, Value.int (iI k1)), (2, Value.long (iL z1))]) hx hb dX9_runScript_22 hl (by decide) rfl (fun ls hl => ?_)
      have h0_3 : iL ((10 : Int) ^ (6 * 0)) = iL 1 := rfl
      refine lp_up (fun i => [(6, Value.int (iI (i : Int))), (4, Value.long (iL ((10 : Int) ^ (6 * i)))), (0, Value.ref x), (1, Value.int (iI k1)), (2, Value.long (iL z1))]) (fun i => True) (k1.toNat) (0) (by omega) (by first | trivial | (intro j hj; omega)) (lv_eq (lv_sub hl [0, 1, 2, 3, 4] rfl) (by show [(6, Value.int (iI 0)), (4, Value.long (iL ((10 : Int) ^ (6 * 0)))), (0, Value.ref x), (1, Value.int (iI k1)), (2, Value.long (iL z1))] = [(6, Value.int (iI 0)), (4, Value.long (iL 1)), (0, Value.ref x), (1, Value.int (iI k1)), (2, Value.long (iL z1))]; rw [h0_3])) (fun i h0_i hi_i hI_i ih_24 ls hl => ?_)
      refine lv_iload hx hb dX9_runScript_24 (lv_at hl 0 rfl) ?_
      refine lv_iload_n hx hb dX9_runScript_26 rfl (lv_at hl 3 rfl) ?_
      refine zi_icmp_ge (tgt := 44) hx hb ⟨by omega, by omega⟩ ⟨by omega, by omega⟩ dX9_runScript_27 (by decide) (fun c_4 => ?_) (fun c_4 => ?_)
      · have _ := c_4
        have h0_i : i = k1.toNat := by omega
        have hpw := pw6 (k := 6 * i) (by omega)
        have hki : i = k1.toNat := h0_i
        have hpe : (10 : Int) ^ (6 * i) = 10 ^ (6 * k1.toNat) := by rw [hki]
        refine lv_lload_n hx hb dX9_runScript_44 rfl (lv_at hl 4 rfl) ?_
        refine lv_lconst (v := 0) hx hb dX9_runScript_45 (by decide) ?_
        refine cv_l (y := iL 0) (by decide) ?_
        refine zl_lt (tgt := 61) ⟨by omega, by omega⟩ ⟨by omega, by omega⟩ hx hb dX9_runScript_46 dX9_runScript_47 (by decide) (fun c_5 => ?_) (fun c_5 => ?_)
        · have _ := c_5
          refine lv_iconst (v := iI 0) hx hb dX9_runScript_61 (by decide) ?_
          refine xr_S (As := [Value.int (iI 0)]) (rest := []) ⟨hx, hb, hml, hown, hts⟩ (x_X9_mustFit l hst g τ) gX9_runScript_X9_mustFit cd_X9_mustFit rfl ⟨rfl, rfl⟩ ⟨Nat.le_of_ble_eq_true rfl, Nat.le_of_ble_eq_true rfl⟩ hK hZT hZU hP hD hS [] rfl rfl rfl hl rfl (Nat.le_of_ble_eq_true rfl) dX9_runScript_62 ⟨Nat.le_of_ble_eq_true rfl, Nat.le_of_ble_eq_true rfl⟩ (fun w1 h => by rw [h]) (fun w1 H locs q9 ce9 hZ hP hD hS a1 a2 a3 => ?_)
          subst hZ
          have hP : va_P g vwCl ([xoC x (ta 0) (aj 0) (me 0) sl sv (ad 0) (bd 0)] ++ (stW ad R τ ++ (stW bd T τ ++ juW aj J τ))) H := hP
          exact u_out ht hlocks a1 a2 a3 hP hS ⟨Nat.le_of_ble_eq_true rfl, Nat.le_of_ble_eq_true rfl⟩ (⟨by omega, rfl, rfl⟩)
        · have _ := c_5
          refine lv_lload_n hx hb dX9_runScript_50 rfl (lv_at hl 4 rfl) ?_
          refine lv_lload hx hb dX9_runScript_51 (lv_at hl 1 rfl) ?_
          refine zl_ge (tgt := 61) ⟨by omega, by omega⟩ ⟨by omega, by omega⟩ hx hb dX9_runScript_53 dX9_runScript_54 (by decide) (fun c_6 => ?_) (fun c_6 => ?_)
          · have _ := c_6
            refine lv_iconst (v := iI 0) hx hb dX9_runScript_61 (by decide) ?_
            refine xr_S (As := [Value.int (iI 0)]) (rest := []) ⟨hx, hb, hml, hown, hts⟩ (x_X9_mustFit l hst g τ) gX9_runScript_X9_mustFit cd_X9_mustFit rfl ⟨rfl, rfl⟩ ⟨Nat.le_of_ble_eq_true rfl, Nat.le_of_ble_eq_true rfl⟩ hK hZT hZU hP hD hS [] rfl rfl rfl hl rfl (Nat.le_of_ble_eq_true rfl) dX9_runScript_62 ⟨Nat.le_of_ble_eq_true rfl, Nat.le_of_ble_eq_true rfl⟩ (fun w1 h => by rw [h]) (fun w1 H locs q9 ce9 hZ hP hD hS a1 a2 a3 => ?_)
            subst hZ
            have hP : va_P g vwCl ([xoC x (ta 0) (aj 0) (me 0) sl sv (ad 0) (bd 0)] ++ (stW ad R τ ++ (stW bd T τ ++ juW aj J τ))) H := hP
            exact u_out ht hlocks a1 a2 a3 hP hS ⟨Nat.le_of_ble_eq_true rfl, Nat.le_of_ble_eq_true rfl⟩ (⟨by omega, rfl, rfl⟩)
          · have _ := c_6
            refine lv_iconst (v := iI 1) hx hb dX9_runScript_57 (by decide) ?_
            refine lv_goto (tgt := 62) hx hb dX9_runScript_58 (by decide) ?_
            refine ro_S (As := [Value.int (iI 1)]) (rest := []) (v := none) ⟨hx, hb, hml, hown, hts⟩ (c_X9_mustFit l g τ) gX9_runScript_X9_mustFit cd_X9_mustFit rfl ⟨rfl, rfl⟩ ⟨Nat.le_of_ble_eq_true rfl, Nat.le_of_ble_eq_true rfl⟩ hK (fun _ _ h => nomatch h) rfl hl rfl (Nat.le_of_ble_eq_true rfl) dX9_runScript_62 ⟨Nat.le_of_ble_eq_true rfl, Nat.le_of_ble_eq_true rfl⟩ ?_
            refine tl_none ?_
            refine lv_aload_n hx hb dX9_runScript_65 rfl (lv_at hl 2 rfl) ?_
            refine rq_V (As := []) (rest := []) ⟨hx, hb, hml, hown, hts⟩ (c_X9_freshTrial l g τ x sl sv ta aj me ad bd R T) gX9_runScript_X9_freshTrial cd_X9_freshTrial rfl rfl ⟨rfl, rfl⟩ ⟨Nat.le_of_ble_eq_true rfl, Nat.le_of_ble_eq_true rfl⟩ hK hP hD hS (pm4_012 _ _ _ _) 0 rfl rfl rfl rfl hl rfl (Nat.le_of_ble_eq_true rfl) dX9_runScript_66 ⟨Nat.le_of_ble_eq_true rfl, Nat.le_of_ble_eq_true rfl⟩ (fun v w h => by rw [h.2]; exact f_xst _ _ _ _ _ _ _ _) (fun v w1 H locs hZ hP hD hS => ?_)
            obtain ⟨rfl, rfl⟩ := hZ
            have hP : va_P g vwCl ([xoC x (ta 0) (aj 0) (me 0) sl sv (ad 0) (bd 0)] ++ (stW ad R τ ++ (stW bd R τ ++ juW aj J τ))) H := hP.pm (pm4_012 _ _ _ _).symm
            have hD : va_D A ([xoC x (ta 0) (aj 0) (me 0) sl sv (ad 0) (bd 0)] ++ (stW ad R τ ++ (stW bd R τ ++ juW aj J τ))) := hD.pm (pm4_012 _ _ _ _).symm
            have hP_x := va_left hP
            have hP_s := va_left (va_right hP)
            have hP_t := va_left (va_right (va_right hP))
            have hP_j := va_right (va_right (va_right hP))
            refine tl_some ?_
            refine lv_pop hx hb dX9_runScript_69 rfl ?_
            refine lv_iconst (v := iI 0) hx hb dX9_runScript_70 (by decide) ?_
            refine lv_istore (lv' := [(6, Value.int (iI 0)), (4, Value.long (iL ((10 : Int) ^ (6 * i)))), (0, Value.ref x), (1, Value.int (iI k1)), (2, Value.long (iL z1))]) hx hb dX9_runScript_71 hl (by decide) rfl (fun ls hl => ?_)
            have h0_7 : iL ((10 : Int) ^ (6 * (k1.toNat - 0))) = iL ((10 : Int) ^ (6 * i)) := by rw [Nat.sub_zero, h0_i]
            have hP : va_P g vwCl ([xoC x (ta 0) (aj 0) (me 0) sl sv (ad 0) (bd 0)] ++ (stW ad R τ ++ (stW bd (qRun R k1.toNat z1 0) τ ++ juW aj J τ))) H := by exact hP
            have hD : va_D A ([xoC x (ta 0) (aj 0) (me 0) sl sv (ad 0) (bd 0)] ++ (stW ad R τ ++ (stW bd (qRun R k1.toNat z1 0) τ ++ juW aj J τ))) := by exact hD
            refine lp_upX (fun i => [(6, Value.int (iI (i : Int))), (4, Value.long (iL ((10 : Int) ^ (6 * (k1.toNat - i))))), (0, Value.ref x), (1, Value.int (iI k1)), (2, Value.long (iL z1))]) (fun i X => [xoC x (ta 0) (aj 0) (me 0) sl sv (ad 0) (bd 0)] ++ (stW ad R τ ++ (stW bd (qRun R k1.toNat z1 i) τ ++ juW aj X τ))) (fun i X => HB X ∧ JSp X ∧ ∀ j, j < i → qRunP R k1.toNat z1 j = false) (k1.toNat) (0) (J) (by omega) hP hD hS (⟨hjb, hjs, fun j hj => by omega⟩) (lv_eq (lv_sub hl [0, 1, 2, 3, 4] rfl) (by show [(6, Value.int (iI 0)), (4, Value.long (iL ((10 : Int) ^ (6 * (k1.toNat - 0))))), (0, Value.ref x), (1, Value.int (iI k1)), (2, Value.long (iL z1))] = [(6, Value.int (iI 0)), (4, Value.long (iL ((10 : Int) ^ (6 * i)))), (0, Value.ref x), (1, Value.int (iI k1)), (2, Value.long (iL z1))]; rw [h0_7])) (fun i h0_i hi_i J2 hJ_i ih_73 H locs hP hD hS ls hl => ?_)
            have hP_x := va_left hP
            have hP_s := va_left (va_right hP)
            have hP_t := va_left (va_right (va_right hP))
            have hP_j := va_right (va_right (va_right hP))
            have hpk := pw6 (k := 6 * (k1.toNat - i)) (by omega)
            have hpd := pw6 (k := 6 * (k1.toNat - 1 - i)) (by omega)
            refine lv_iload hx hb dX9_runScript_73 (lv_at hl 0 rfl) ?_
            refine lv_iload_n hx hb dX9_runScript_75 rfl (lv_at hl 3 rfl) ?_
            refine zi_icmp_ge (tgt := 112) hx hb ⟨by omega, by omega⟩ ⟨by omega, by omega⟩ dX9_runScript_76 (by decide) (fun c_8 => ?_) (fun c_8 => ?_)
            · have _ := c_8
              have h0_i : i = k1.toNat := by omega
              refine lv_iconst (v := iI (-1)) hx hb dX9_runScript_112 (by decide) ?_
              exact u_iret hx hb hr hlocks hP hS ⟨Nat.le_of_ble_eq_true rfl, Nat.le_of_ble_eq_true rfl⟩ (⟨⟨⟨by omega, by omega⟩, by omega, by omega⟩, by (have hf : fst (qRunP R k1.toNat z1) k1.toNat = k1.toNat := fst_none (fun j hj => hJ_i.2.2 j (by omega))); show _ = some (Value.int (iI (qRunN R k1.toNat z1))); rw [qRunN, hf, if_neg (by omega)], _, _, hJ_i.1, hJ_i.2.1, rfl⟩) dX9_runScript_113
            · have _ := c_8
              have hl_i : i < k1.toNat := by omega
              refine lv_lload hx hb dX9_runScript_79 (lv_at hl 1 rfl) ?_
              refine lv_ldc2 (v := 1000000) hx hb hown (hts _ (List.mem_of_getElem? (i := 1) rfl)) dX9_runScript_81 ?_
              refine cv_l (y := iL 1000000) (by decide) ?_
              refine lv_ldiv hx hb dX9_runScript_84 (iL_ne ⟨by omega, by omega⟩) ?_
              refine cv_l (y := iL (((10 : Int) ^ (6 * (k1.toNat - i))) / 1000000)) (iL_div ⟨by omega, by omega⟩ ⟨by omega, by omega⟩) ?_
              refine cv_l (y := iL ((10 : Int) ^ (6 * (k1.toNat - 1 - i)))) (congrArg iL (p10_d hl_i)) ?_
              refine lv_lstore (lv' := [(4, Value.long (iL ((10 : Int) ^ (6 * (k1.toNat - 1 - i))))), (6, Value.int (iI (i : Int))), (0, Value.ref x), (1, Value.int (iI k1)), (2, Value.long (iL z1))]) hx hb dX9_runScript_85 hl (by decide) rfl (fun ls hl => ?_)
              refine lv_aload_n hx hb dX9_runScript_87 rfl (lv_at hl 2 rfl) ?_
              refine lv_lload_n hx hb dX9_runScript_88 rfl (lv_at hl 4 rfl) ?_
              refine lv_lload hx hb dX9_runScript_89 (lv_at hl 0 rfl) ?_
              refine lv_ldiv hx hb dX9_runScript_91 (iL_ne ⟨by omega, by omega⟩) ?_
              refine cv_l (y := iL (z1 / ((10 : Int) ^ (6 * (k1.toNat - 1 - i))))) (iL_div ⟨by omega, by omega⟩ ⟨by omega, by omega⟩) ?_
              have hdv := zdiv_r (a := z1) (b := (10 : Int) ^ (6 * (k1.toNat - 1 - i))) ⟨by omega, by omega⟩ hpd.1
              refine lv_ldc2 (v := 1000000) hx hb hown (hts _ (List.mem_of_getElem? (i := 1) rfl)) dX9_runScript_92 ?_
              refine cv_l (y := iL 1000000) (by decide) ?_
              refine lv_lrem hx hb dX9_runScript_95 (iL_ne ⟨by omega, by omega⟩) ?_
              refine cv_l (y := iL ((z1 / ((10 : Int) ^ (6 * (k1.toNat - 1 - i)))) % 1000000)) (iL_rem ⟨by omega, by omega⟩ ⟨by omega, by omega⟩) ?_
              refine lv_l2i (v := iI ((z1 / ((10 : Int) ^ (6 * (k1.toNat - 1 - i)))) % 1000000)) hx hb dX9_runScript_96 (l2i_iL _) ?_
              refine cv_i (y := iI (qGrp k1.toNat z1 i)) (congrArg iI rfl) ?_
              refine rq_V (As := [Value.int (iI (qGrp k1.toNat z1 i))]) (rest := []) ⟨hx, hb, hml, hown, hts⟩ (c_X9_succeeds l g τ x sl sv ta aj me ad bd (qRun R k1.toNat z1 i) (SI_run hI k1.toNat z1 i) J2 hJ_i.1 hJ_i.2.1 (qGrp k1.toNat z1 i) (qGrp_r k1.toNat z1 i)) gX9_runScript_X9_succeeds cd_X9_succeeds rfl rfl ⟨rfl, rfl⟩ ⟨Nat.le_of_ble_eq_true rfl, Nat.le_of_ble_eq_true rfl⟩ hK hP hD hS (pm4_023 _ _ _ _) 0 rfl rfl rfl rfl hl rfl (Nat.le_of_ble_eq_true rfl) dX9_runScript_97 ⟨Nat.le_of_ble_eq_true rfl, Nat.le_of_ble_eq_true rfl⟩ (fun v w h => by obtain ⟨-, J9, -, -, rfl⟩ := h; exact f_xtj _ _ _ _ _ _ _ _) (fun v w1 H locs hZ hP hD hS => ?_)
              obtain ⟨rfl, Jn_9, hbJn_9, hsJn_9, rfl⟩ := hZ
              have hP : va_P g vwCl ([xoC x (ta 0) (aj 0) (me 0) sl sv (ad 0) (bd 0)] ++ (stW ad R τ ++ (stW bd ((qCmd (qRun R k1.toNat z1 i) (qGrp k1.toNat z1 i)).2) τ ++ juW aj Jn_9 τ))) H := hP.pm (pm4_023 _ _ _ _).symm
              have hD : va_D A ([xoC x (ta 0) (aj 0) (me 0) sl sv (ad 0) (bd 0)] ++ (stW ad R τ ++ (stW bd ((qCmd (qRun R k1.toNat z1 i) (qGrp k1.toNat z1 i)).2) τ ++ juW aj Jn_9 τ))) := hD.pm (pm4_023 _ _ _ _).symm
              have hP_x := va_left hP
              have hP_s := va_left (va_right hP)
              have hP_t := va_left (va_right (va_right hP))
              have hP_j := va_right (va_right (va_right hP))
              refine tl_some ?_
              refine zb_if_ne (tgt := 106) hx hb dX9_runScript_100 (by decide) (fun c_10 => ?_) (fun c_10 => ?_)
              · have _ := c_10
                refine zi_inc (v := ((i + 1 : Nat) : Int)) (lv' := [(6, Value.int (iI ((i + 1 : Nat) : Int))), (4, Value.long (iL ((10 : Int) ^ (6 * (k1.toNat - 1 - i))))), (0, Value.ref x), (1, Value.int (iI k1)), (2, Value.long (iL z1))]) hx hb dX9_runScript_106 hl (k := 1) rfl (by omega) (by decide) rfl (fun ls hl => ?_)
                refine lv_goto (tgt := 73) hx hb dX9_runScript_109 (by decide) ?_
                have hb_11 : (((i + 1) : Nat) : Int) = ((i + 1 : Nat) : Int) := by first | rfl | omega
                have hb_12 : iL ((10 : Int) ^ (6 * (k1.toNat - (i + 1)))) = iL ((10 : Int) ^ (6 * (k1.toNat - 1 - i))) := by rw [show k1.toNat - (i + 1) = k1.toNat - 1 - i from by omega]
                have hw_13 : [xoC x (ta 0) (aj 0) (me 0) sl sv (ad 0) (bd 0)] ++ (stW ad R τ ++ (stW bd ((qCmd (qRun R k1.toNat z1 i) (qGrp k1.toNat z1 i)).2) τ ++ juW aj Jn_9 τ)) = [xoC x (ta 0) (aj 0) (me 0) sl sv (ad 0) (bd 0)] ++ (stW ad R τ ++ (stW bd (qRun R k1.toNat z1 (i + 1)) τ ++ juW aj Jn_9 τ)) := rfl
                rw [hw_13] at hP hD
                exact ih_73 hl_i (Jn_9) (⟨hbJn_9, hsJn_9, lt_step hJ_i.2.2 (by show (!_) = false; rw [show (qCmd (qRun R k1.toNat z1 i) (qGrp k1.toNat z1 i)).1 = true from by assumption]; rfl)⟩) _ _ _ hP hD hS (lv_eq (lv_sub hl [0, 1, 2, 3, 4] rfl) (by show [(6, Value.int (iI (((i + 1) : Nat) : Int))), (4, Value.long (iL ((10 : Int) ^ (6 * (k1.toNat - (i + 1)))))), (0, Value.ref x), (1, Value.int (iI k1)), (2, Value.long (iL z1))] = [(6, Value.int (iI ((i + 1 : Nat) : Int))), (4, Value.long (iL ((10 : Int) ^ (6 * (k1.toNat - 1 - i))))), (0, Value.ref x), (1, Value.int (iI k1)), (2, Value.long (iL z1))]; rw [hb_11, hb_12]))
              · have _ := c_10
                refine lv_iload hx hb dX9_runScript_103 (lv_at hl 1 rfl) ?_
                exact u_iret hx hb hr hlocks hP hS ⟨Nat.le_of_ble_eq_true rfl, Nat.le_of_ble_eq_true rfl⟩ (⟨⟨⟨by omega, by omega⟩, by omega, by omega⟩, by (have hf : fst (qRunP R k1.toNat z1) k1.toNat = i := fst_some hJ_i.2.2 (by show (!_) = true; rw [show (qCmd (qRun R k1.toNat z1 i) (qGrp k1.toNat z1 i)).1 = false from by assumption]; rfl) hl_i); show _ = some (Value.int (iI (qRunN R k1.toNat z1))); rw [qRunN, hf, if_pos hl_i], _, _, hbJn_9, hsJn_9, rfl⟩) dX9_runScript_105
      · have _ := c_4
        have hl_i : i < k1.toNat := by omega
        have hpi := pw6 (k := 6 * i) (by omega)
        refine lv_lload hx hb dX9_runScript_30 (lv_at hl 1 rfl) ?_
        refine lv_ldc2 (v := 1000000) hx hb hown (hts _ (List.mem_of_getElem? (i := 1) rfl)) dX9_runScript_32 ?_
        refine cv_l (y := iL 1000000) (by decide) ?_
        refine lv_lmul hx hb dX9_runScript_35 ?_
        refine cv_l (y := iL (((10 : Int) ^ (6 * i)) * 1000000)) (iL_mul _ _) ?_
        refine cv_l (y := iL ((10 : Int) ^ (6 * (i + 1)))) (congrArg iL (p10_s i)) ?_
        refine lv_lstore (lv' := [(4, Value.long (iL ((10 : Int) ^ (6 * (i + 1))))), (6, Value.int (iI (i : Int))), (0, Value.ref x), (1, Value.int (iI k1)), (2, Value.long (iL z1))]) hx hb dX9_runScript_36 hl (by decide) rfl (fun ls hl => ?_)
        refine zi_inc (v := ((i + 1 : Nat) : Int)) (lv' := [(6, Value.int (iI ((i + 1 : Nat) : Int))), (4, Value.long (iL ((10 : Int) ^ (6 * (i + 1))))), (0, Value.ref x), (1, Value.int (iI k1)), (2, Value.long (iL z1))]) hx hb dX9_runScript_38 hl (k := 1) rfl (by omega) (by decide) rfl (fun ls hl => ?_)
        refine lv_goto (tgt := 24) hx hb dX9_runScript_41 (by decide) ?_
        have hb_14 : (((i + 1) : Nat) : Int) = ((i + 1 : Nat) : Int) := by first | rfl | omega | (simp [c_1, c_2, c_4]; done)
        exact ih_24 hl_i (trivial) _ (lv_eq (lv_sub hl [0, 1, 2, 3, 4] rfl) (by show [(6, Value.int (iI (((i + 1) : Nat) : Int))), (4, Value.long (iL ((10 : Int) ^ (6 * (i + 1))))), (0, Value.ref x), (1, Value.int (iI k1)), (2, Value.long (iL z1))] = [(6, Value.int (iI ((i + 1 : Nat) : Int))), (4, Value.long (iL ((10 : Int) ^ (6 * (i + 1))))), (0, Value.ref x), (1, Value.int (iI k1)), (2, Value.long (iL z1))]; rw [hb_14]))

theorem cd_X9_simulate : cd yX9_simulate 2 := by decide +kernel
theorem in_X9_simulate_X4 : ∀ w ∈ wsX40, w ∈ wsX9_simulate := by decide +kernel
theorem in_X9_simulate_X6 : ∀ w ∈ wsX60, w ∈ wsX9_simulate := by decide +kernel
theorem in_X9_simulate_X9 : ∀ w ∈ wsX90, w ∈ wsX9_simulate := by decide +kernel
set_option maxHeartbeats 4000000 in
set_option maxRecDepth 100000 in
theorem c_X9_simulate (l : Launch) (hst : l.stackTraces = false) (g : va_G) (τ : Nat → ClassId) (x sl sv : Nat) (ta aj me ad bd : Nat → Nat) (R T : Nat → Nat → Int) (hI : SI R) (J : Nat → Nat → Int) (hjb : HB J) (hjs : JSp J) (x1 : Int64) (k1 : Int) (rk1 : -2147483648 ≤ k1 ∧ k1 < 2147483648)  : uMet l yX9_simulate wsX9_simulate { frames := 7, cells := 1, slots := 6, locals := 151 } g τ [Value.ref x, Value.long x1, Value.int (iI k1)] ([xoC x (ta 0) (aj 0) (me 0) sl sv (ad 0) (bd 0)] ++ (stW ad R τ ++ (stW bd T τ ++ juW aj J τ))) (fun v w => (1 ≤ k1 ∧ k1 ≤ 60) ∧ v = some (Value.int (iI (qSimN R x1 k1.toNat))) ∧ ∃ T2 J2, HB J2 ∧ JSp J2 ∧ w = [xoC x (ta 0) (aj 0) (me 0) sl sv (ad 0) (bd 0)] ++ (stW ad R τ ++ (stW bd T2 τ ++ juW aj J2 τ))) (fun E w => ¬ (1 ≤ k1 ∧ k1 ≤ 60) ∧ E = "java/lang/IllegalArgumentException" ∧ w = [xoC x (ta 0) (aj 0) (me 0) sl sv (ad 0) (bd 0)] ++ (stW ad R τ ++ (stW bd T τ ++ juW aj J τ))) := by
  have hB := hI.hB
  have hr0 := hI.r
  have hd0 := hI.d
  have hs0 := hI.s
  have hN := hI.hN
  refine uMet_of (cc := cX9_simulate) (maxL := 8) (ret := (some .int)) (lv := [(0, Value.ref x), (1, Value.long x1), (3, Value.int (iI k1))]) (by decide) rfl (Nat.le_of_ble_eq_true rfl) rfl ?_
  intro p e s m below meth c hx hb hr hml hts hown hlocks ht A H hP hD hS hK hZT hZU ls hl
  have hP_x := va_left hP
  have hP_s := va_left (va_right hP)
  have hP_t := va_left (va_right (va_right hP))
  have hP_j := va_right (va_right (va_right hP))
  refine lv_iload_n hx hb dX9_simulate_0 rfl (lv_at hl 2 rfl) ?_
  refine lv_iconst (v := iI 1) hx hb dX9_simulate_1 (by decide) ?_
  refine zi_icmp_lt (tgt := 15) hx hb ⟨by omega, by omega⟩ ⟨by decide, by decide⟩ dX9_simulate_2 (by decide) (fun c_1 => ?_) (fun c_1 => ?_)
  · have _ := c_1
    refine lv_iconst (v := iI 0) hx hb dX9_simulate_15 (by decide) ?_
    refine xr_S (As := [Value.int (iI 0)]) (rest := []) ⟨hx, hb, hml, hown, hts⟩ (x_X9_mustFit l hst g τ) gX9_simulate_X9_mustFit cd_X9_mustFit rfl ⟨rfl, rfl⟩ ⟨Nat.le_of_ble_eq_true rfl, Nat.le_of_ble_eq_true rfl⟩ hK hZT hZU hP hD hS [] rfl rfl rfl hl rfl (Nat.le_of_ble_eq_true rfl) dX9_simulate_16 ⟨Nat.le_of_ble_eq_true rfl, Nat.le_of_ble_eq_true rfl⟩ (fun w1 h => by rw [h]) (fun w1 H locs q9 ce9 hZ hP hD hS a1 a2 a3 => ?_)
    subst hZ
    have hP : va_P g vwCl ([xoC x (ta 0) (aj 0) (me 0) sl sv (ad 0) (bd 0)] ++ (stW ad R τ ++ (stW bd T τ ++ juW aj J τ))) H := hP
    exact u_out ht hlocks a1 a2 a3 hP hS ⟨Nat.le_of_ble_eq_true rfl, Nat.le_of_ble_eq_true rfl⟩ (⟨by omega, rfl, rfl⟩)
  · have _ := c_1
    refine lv_iload_n hx hb dX9_simulate_5 rfl (lv_at hl 2 rfl) ?_
    refine lv_bipush (v := iI 60) hx hb dX9_simulate_6 (by decide) ?_
    refine zi_icmp_gt (tgt := 15) hx hb ⟨by omega, by omega⟩ ⟨by decide, by decide⟩ dX9_simulate_8 (by decide) (fun c_2 => ?_) (fun c_2 => ?_)
    · have _ := c_2
      refine lv_iconst (v := iI 0) hx hb dX9_simulate_15 (by decide) ?_
      refine xr_S (As := [Value.int (iI 0)]) (rest := []) ⟨hx, hb, hml, hown, hts⟩ (x_X9_mustFit l hst g τ) gX9_simulate_X9_mustFit cd_X9_mustFit rfl ⟨rfl, rfl⟩ ⟨Nat.le_of_ble_eq_true rfl, Nat.le_of_ble_eq_true rfl⟩ hK hZT hZU hP hD hS [] rfl rfl rfl hl rfl (Nat.le_of_ble_eq_true rfl) dX9_simulate_16 ⟨Nat.le_of_ble_eq_true rfl, Nat.le_of_ble_eq_true rfl⟩ (fun w1 h => by rw [h]) (fun w1 H locs q9 ce9 hZ hP hD hS a1 a2 a3 => ?_)
      subst hZ
      have hP : va_P g vwCl ([xoC x (ta 0) (aj 0) (me 0) sl sv (ad 0) (bd 0)] ++ (stW ad R τ ++ (stW bd T τ ++ juW aj J τ))) H := hP
      exact u_out ht hlocks a1 a2 a3 hP hS ⟨Nat.le_of_ble_eq_true rfl, Nat.le_of_ble_eq_true rfl⟩ (⟨by omega, rfl, rfl⟩)
    · have _ := c_2
      refine lv_iconst (v := iI 1) hx hb dX9_simulate_11 (by decide) ?_
      refine lv_goto (tgt := 16) hx hb dX9_simulate_12 (by decide) ?_
      refine ro_S (As := [Value.int (iI 1)]) (rest := []) (v := none) ⟨hx, hb, hml, hown, hts⟩ (c_X9_mustFit l g τ) gX9_simulate_X9_mustFit cd_X9_mustFit rfl ⟨rfl, rfl⟩ ⟨Nat.le_of_ble_eq_true rfl, Nat.le_of_ble_eq_true rfl⟩ hK (fun _ _ h => nomatch h) rfl hl rfl (Nat.le_of_ble_eq_true rfl) dX9_simulate_16 ⟨Nat.le_of_ble_eq_true rfl, Nat.le_of_ble_eq_true rfl⟩ ?_
      refine tl_none ?_
      refine lv_aload_n hx hb dX9_simulate_19 rfl (lv_at hl 0 rfl) ?_
      refine rq_V (As := []) (rest := []) ⟨hx, hb, hml, hown, hts⟩ (c_X9_freshTrial l g τ x sl sv ta aj me ad bd R T) gX9_simulate_X9_freshTrial cd_X9_freshTrial rfl rfl ⟨rfl, rfl⟩ ⟨Nat.le_of_ble_eq_true rfl, Nat.le_of_ble_eq_true rfl⟩ hK hP hD hS (pm4_012 _ _ _ _) 0 rfl rfl rfl rfl hl rfl (Nat.le_of_ble_eq_true rfl) dX9_simulate_20 ⟨Nat.le_of_ble_eq_true rfl, Nat.le_of_ble_eq_true rfl⟩ (fun v w h => by rw [h.2]; exact f_xst _ _ _ _ _ _ _ _) (fun v w1 H locs hZ hP hD hS => ?_)
      obtain ⟨rfl, rfl⟩ := hZ
      have hP : va_P g vwCl ([xoC x (ta 0) (aj 0) (me 0) sl sv (ad 0) (bd 0)] ++ (stW ad R τ ++ (stW bd R τ ++ juW aj J τ))) H := hP.pm (pm4_012 _ _ _ _).symm
      have hD : va_D A ([xoC x (ta 0) (aj 0) (me 0) sl sv (ad 0) (bd 0)] ++ (stW ad R τ ++ (stW bd R τ ++ juW aj J τ))) := hD.pm (pm4_012 _ _ _ _).symm
      have hP_x := va_left hP
      have hP_s := va_left (va_right hP)
      have hP_t := va_left (va_right (va_right hP))
      have hP_j := va_right (va_right (va_right hP))
      refine tl_some ?_
      refine lv_pop hx hb dX9_simulate_23 rfl ?_
      refine lv_lload_n hx hb dX9_simulate_24 rfl (lv_at hl 1 rfl) ?_
      refine lv_lstore (lv' := [(4, Value.long x1), (0, Value.ref x), (1, Value.long x1), (3, Value.int (iI k1))]) hx hb dX9_simulate_25 hl (by decide) rfl (fun ls hl => ?_)
      refine lv_iconst (v := iI 0) hx hb dX9_simulate_27 (by decide) ?_
      refine lv_istore (lv' := [(6, Value.int (iI 0)), (4, Value.long x1), (0, Value.ref x), (1, Value.long x1), (3, Value.int (iI k1))]) hx hb dX9_simulate_28 hl (by decide) rfl (fun ls hl => ?_)
      have h0_3 : qX x1 0 = x1 := rfl
      have hP : va_P g vwCl ([xoC x (ta 0) (aj 0) (me 0) sl sv (ad 0) (bd 0)] ++ (stW ad R τ ++ (stW bd (qSim R x1 0) τ ++ juW aj J τ))) H := by exact hP
      have hD : va_D A ([xoC x (ta 0) (aj 0) (me 0) sl sv (ad 0) (bd 0)] ++ (stW ad R τ ++ (stW bd (qSim R x1 0) τ ++ juW aj J τ))) := by exact hD
      refine lp_upX (fun i => [(6, Value.int (iI (i : Int))), (4, Value.long (qX x1 i)), (0, Value.ref x), (1, Value.long x1), (3, Value.int (iI k1))]) (fun i X => [xoC x (ta 0) (aj 0) (me 0) sl sv (ad 0) (bd 0)] ++ (stW ad R τ ++ (stW bd (qSim R x1 i) τ ++ juW aj X τ))) (fun i X => HB X ∧ JSp X) (k1.toNat) (0) (J) (by omega) hP hD hS (⟨hjb, hjs⟩) (lv_eq (lv_sub hl [0, 1, 2, 3, 4] rfl) (by show [(6, Value.int (iI 0)), (4, Value.long (qX x1 0)), (0, Value.ref x), (1, Value.long x1), (3, Value.int (iI k1))] = [(6, Value.int (iI 0)), (4, Value.long x1), (0, Value.ref x), (1, Value.long x1), (3, Value.int (iI k1))]; rw [h0_3])) (fun i h0_i hi_i J2 hJ_i ih_30 H locs hP hD hS ls hl => ?_)
      have hP_x := va_left hP
      have hP_s := va_left (va_right hP)
      have hP_t := va_left (va_right (va_right hP))
      have hP_j := va_right (va_right (va_right hP))
      refine lv_iload hx hb dX9_simulate_30 (lv_at hl 0 rfl) ?_
      refine lv_iload_n hx hb dX9_simulate_32 rfl (lv_at hl 4 rfl) ?_
      refine zi_icmp_ge (tgt := 77) hx hb ⟨by omega, by omega⟩ ⟨by omega, by omega⟩ dX9_simulate_33 (by decide) (fun c_4 => ?_) (fun c_4 => ?_)
      · have _ := c_4
        have h0_i : i = k1.toNat := by omega
        refine lv_aload_n hx hb dX9_simulate_77 rfl (lv_at hl 2 rfl) ?_
        refine va_get (D := g) (ci := 9) (v := Value.ref (aj 0)) (C := RX9) (T := TX9) (N := 7) hx hb hts in_X9_simulate_X9 hown hK.1 hP_x 0 (rfl) rfl 1 (by decide) (hts _ (List.mem_of_getElem? (i := 3) rfl) : (Cond.fieldLink RX9 19 "CordSeals" "judge" "LCordSeals$Judge;").before _ s = true) (fun _ h9 => h9) rfl dX9_simulate_78 ?_
        refine lv_aload_n hx hb dX9_simulate_81 rfl (lv_at hl 2 rfl) ?_
        refine va_get (D := g) (ci := 9) (v := Value.ref (bd 0)) (C := RX9) (T := TX9) (N := 7) hx hb hts in_X9_simulate_X9 hown hK.1 hP_x 0 (rfl) rfl 6 (by decide) (hts _ (List.mem_of_getElem? (i := 4) rfl) : (Cond.fieldLink RX9 45 "CordSeals" "trial" "LCordSeals$State;").before _ s = true) (fun _ h9 => h9) rfl dX9_simulate_82 ?_
        refine rq_V (As := [Value.ref (bd 0)]) (rest := []) ⟨hx, hb, hml, hown, hts⟩ (c_X1_look l g τ bd aj (qSim R x1 i) J2 (SI_sim hI x1 i) hJ_i.1 hJ_i.2) gX9_simulate_X1_look cd_X1_look rfl rfl ⟨rfl, rfl⟩ ⟨Nat.le_of_ble_eq_true rfl, Nat.le_of_ble_eq_true rfl⟩ hK hP hD hS (pm4_32 _ _ _ _) 0 rfl rfl rfl rfl hl rfl (Nat.le_of_ble_eq_true rfl) dX9_simulate_85 ⟨Nat.le_of_ble_eq_true rfl, Nat.le_of_ble_eq_true rfl⟩ (fun v w h => by rw [h.2]; exact f_ju aj bd _ _ _ _) (fun v w1 H locs hZ hP hD hS => ?_)
        obtain ⟨rfl, rfl⟩ := hZ
        have hP : va_P g vwCl ([xoC x (ta 0) (aj 0) (me 0) sl sv (ad 0) (bd 0)] ++ (stW ad R τ ++ (stW bd (qSim R x1 i) τ ++ juW aj (seeJ (qSim R x1 i) J2) τ))) H := hP.pm (pm4_32 _ _ _ _).symm
        have hD : va_D A ([xoC x (ta 0) (aj 0) (me 0) sl sv (ad 0) (bd 0)] ++ (stW ad R τ ++ (stW bd (qSim R x1 i) τ ++ juW aj (seeJ (qSim R x1 i) J2) τ))) := hD.pm (pm4_32 _ _ _ _).symm
        obtain ⟨J3, hjb3, hjs3, hse3, hje⟩ : ∃ J9, HB J9 ∧ JSp J9 ∧ SEE (qSim R x1 i) J9 6 ∧ seeJ (qSim R x1 i) J2 = J9 := ⟨_, (see_ok (SI_sim hI x1 i) hJ_i.1 hJ_i.2).1, (see_ok (SI_sim hI x1 i) hJ_i.1 hJ_i.2).2, SEE_see (SI_sim hI x1 i) J2, rfl⟩
        rw [hje] at hP hD
        have hP_x := va_left hP
        have hP_s := va_left (va_right hP)
        have hP_t := va_left (va_right (va_right hP))
        have hP_j := va_right (va_right (va_right hP))
        refine tl_none ?_
        have hTI := SI_sim hI x1 i
        have htsm := hTI.s
        have hfk := rFks_b (qSim R x1 i) ((qSim R x1 i) 10 0).toNat
        have hbd := rBad_b (qSim R x1 i) 6
        refine lv_sipush (v := iI 1000) hx hb dX9_simulate_88 (by decide) ?_
        refine lv_aload_n hx hb dX9_simulate_91 rfl (lv_at hl 2 rfl) ?_
        refine va_get (D := g) (ci := 9) (v := Value.ref (bd 0)) (C := RX9) (T := TX9) (N := 7) hx hb hts in_X9_simulate_X9 hown hK.1 hP_x 0 (rfl) rfl 6 (by decide) (hts _ (List.mem_of_getElem? (i := 4) rfl) : (Cond.fieldLink RX9 45 "CordSeals" "trial" "LCordSeals$State;").before _ s = true) (fun _ h9 => h9) rfl dX9_simulate_92 ?_
        refine va_get (D := g) (ci := 6) (v := Value.ref (bd 10)) (C := RX6) (T := TX6) (N := 5) hx hb hts in_X9_simulate_X6 hown hK.1 hP_t 0 (rfl) rfl 2 (by decide) (hts _ (List.mem_of_getElem? (i := 5) rfl) : (Cond.fieldLink RX9 109 "CordSeals$State" "seals" "LCordSeals$Seals;").before _ s = true) (fun _ h9 => h9) rfl dX9_simulate_95 ?_
        refine va_get (D := g) (ci := 4) (v := Value.int (iI ((qSim R x1 i) 10 0))) (C := RX4) (T := TX4) (N := 7) hx hb hts in_X9_simulate_X4 hown hK.1 hP_t 10 (rfl) rfl 0 (by decide) (hts _ (List.mem_of_getElem? (i := 6) rfl) : (Cond.fieldLink RX9 113 "CordSeals$Seals" "count" "I").before _ s = true) (fun _ h9 => h9) rfl dX9_simulate_98 ?_
        refine zi_mul hx hb dX9_simulate_101 ?_
        refine lv_bipush (v := iI 10) hx hb dX9_simulate_102 (by decide) ?_
        refine lv_aload_n hx hb dX9_simulate_104 rfl (lv_at hl 2 rfl) ?_
        refine va_get (D := g) (ci := 9) (v := Value.ref (aj 0)) (C := RX9) (T := TX9) (N := 7) hx hb hts in_X9_simulate_X9 hown hK.1 hP_x 0 (rfl) rfl 1 (by decide) (hts _ (List.mem_of_getElem? (i := 3) rfl) : (Cond.fieldLink RX9 19 "CordSeals" "judge" "LCordSeals$Judge;").before _ s = true) (fun _ h9 => h9) rfl dX9_simulate_105 ?_
        refine lv_aload_n hx hb dX9_simulate_108 rfl (lv_at hl 2 rfl) ?_
        refine va_get (D := g) (ci := 9) (v := Value.ref (bd 0)) (C := RX9) (T := TX9) (N := 7) hx hb hts in_X9_simulate_X9 hown hK.1 hP_x 0 (rfl) rfl 6 (by decide) (hts _ (List.mem_of_getElem? (i := 4) rfl) : (Cond.fieldLink RX9 45 "CordSeals" "trial" "LCordSeals$State;").before _ s = true) (fun _ h9 => h9) rfl dX9_simulate_109 ?_
        refine ro_V (As := [Value.ref (bd 0)]) (rest := [Value.int (iI 10), Value.int (iI (1000 * ((qSim R x1 i) 10 0)))]) (v := some (Value.int (iI (cnt (jF J3) ((qSim R x1 i) 10 0).toNat)))) ⟨hx, hb, hml, hown, hts⟩ (c_X1_fakes l g τ bd aj (qSim R x1 i) J3 hTI hjb3) gX9_simulate_X1_fakes cd_X1_fakes rfl rfl ⟨rfl, rfl⟩ ⟨Nat.le_of_ble_eq_true rfl, Nat.le_of_ble_eq_true rfl⟩ hK (hP_j.app hP_t) 0 rfl rfl rfl rfl hl rfl (Nat.le_of_ble_eq_true rfl) dX9_simulate_112 ⟨Nat.le_of_ble_eq_true rfl, Nat.le_of_ble_eq_true rfl⟩ ?_
        refine tl_some ?_
        refine cv_i (y := iI (rFks (qSim R x1 i) ((qSim R x1 i) 10 0).toNat)) (congrArg iI (jF_eq hTI hse3)) ?_
        refine zi_mul hx hb dX9_simulate_115 ?_
        refine zi_add hx hb dX9_simulate_116 ?_
        refine lv_aload_n hx hb dX9_simulate_117 rfl (lv_at hl 2 rfl) ?_
        refine va_get (D := g) (ci := 9) (v := Value.ref (aj 0)) (C := RX9) (T := TX9) (N := 7) hx hb hts in_X9_simulate_X9 hown hK.1 hP_x 0 (rfl) rfl 1 (by decide) (hts _ (List.mem_of_getElem? (i := 3) rfl) : (Cond.fieldLink RX9 19 "CordSeals" "judge" "LCordSeals$Judge;").before _ s = true) (fun _ h9 => h9) rfl dX9_simulate_118 ?_
        refine lv_aload_n hx hb dX9_simulate_121 rfl (lv_at hl 2 rfl) ?_
        refine va_get (D := g) (ci := 9) (v := Value.ref (bd 0)) (C := RX9) (T := TX9) (N := 7) hx hb hts in_X9_simulate_X9 hown hK.1 hP_x 0 (rfl) rfl 6 (by decide) (hts _ (List.mem_of_getElem? (i := 4) rfl) : (Cond.fieldLink RX9 45 "CordSeals" "trial" "LCordSeals$State;").before _ s = true) (fun _ h9 => h9) rfl dX9_simulate_122 ?_
        refine ro_V (As := [Value.ref (bd 0)]) (rest := [Value.int (iI ((1000 * ((qSim R x1 i) 10 0)) + (10 * (rFks (qSim R x1 i) ((qSim R x1 i) 10 0).toNat))))]) (v := some (Value.int (iI (cnt (fun h => !jGood (qSim R x1 i) J3 h) 6)))) ⟨hx, hb, hml, hown, hts⟩ (c_X1_badShelves l g τ bd aj (qSim R x1 i) J3 hTI hjb3) gX9_simulate_X1_badShelves cd_X1_badShelves rfl rfl ⟨rfl, rfl⟩ ⟨Nat.le_of_ble_eq_true rfl, Nat.le_of_ble_eq_true rfl⟩ hK (hP_j.app hP_t) 0 rfl rfl rfl rfl hl rfl (Nat.le_of_ble_eq_true rfl) dX9_simulate_125 ⟨Nat.le_of_ble_eq_true rfl, Nat.le_of_ble_eq_true rfl⟩ ?_
        refine tl_some ?_
        refine cv_i (y := iI (rBad (qSim R x1 i) 6)) (congrArg iI (badSh_eq hTI hse3)) ?_
        refine zi_add hx hb dX9_simulate_128 ?_
        exact u_iret hx hb hr hlocks hP hS ⟨Nat.le_of_ble_eq_true rfl, Nat.le_of_ble_eq_true rfl⟩ (⟨⟨by omega, by omega⟩, by (have hin : k1.toNat = i := by omega); show _ = some (Value.int (iI (qSimN R x1 k1.toNat))); rw [hin, qSimN], _, _, hjb3, hjs3, rfl⟩) dX9_simulate_129
      · have _ := c_4
        have hl_i : i < k1.toNat := by omega
        refine lv_lload hx hb dX9_simulate_36 (lv_at hl 1 rfl) ?_
        refine lv_ldc2 (v := 6364136223846793005) hx hb hown (hts _ (List.mem_of_getElem? (i := 1) rfl)) dX9_simulate_38 ?_
        refine lv_lmul hx hb dX9_simulate_41 ?_
        refine lv_ldc2 (v := 1442695040888963407) hx hb hown (hts _ (List.mem_of_getElem? (i := 2) rfl)) dX9_simulate_42 ?_
        refine lv_ladd hx hb dX9_simulate_45 ?_
        refine cv_l (y := qX x1 (i + 1)) (qX_s x1 i) ?_
        refine lv_lstore (lv' := [(4, Value.long (qX x1 (i + 1))), (6, Value.int (iI (i : Int))), (0, Value.ref x), (1, Value.long x1), (3, Value.int (iI k1))]) hx hb dX9_simulate_46 hl (by decide) rfl (fun ls hl => ?_)
        refine lv_lload hx hb dX9_simulate_48 (lv_at hl 0 rfl) ?_
        refine lv_bipush (v := iI 33) hx hb dX9_simulate_50 (by decide) ?_
        refine lv_lushr (v := ((qX x1 (i + 1)).toUInt64 >>> ((33 : Int32).toInt64.toUInt64 &&& Int64.toUInt64 63)).toInt64) hx hb dX9_simulate_52 rfl ?_
        refine lv_l2i (v := iI (qT (qX x1 (i + 1)))) hx hb dX9_simulate_53 (qT_s _) ?_
        have hqr := qT_b (qX x1 (i + 1))
        generalize hqT : qT (qX x1 (i + 1)) = rq9 at hqr ⊢
        refine lv_istore (lv' := [(7, Value.int (iI rq9)), (4, Value.long (qX x1 (i + 1))), (6, Value.int (iI (i : Int))), (0, Value.ref x), (1, Value.long x1), (3, Value.int (iI k1))]) hx hb dX9_simulate_54 hl (by decide) rfl (fun ls hl => ?_)
        refine lv_aload_n hx hb dX9_simulate_56 rfl (lv_at hl 3 rfl) ?_
        refine lv_iload hx hb dX9_simulate_57 (lv_at hl 0 rfl) ?_
        refine lv_bipush (v := iI 8) hx hb dX9_simulate_59 (by decide) ?_
        refine zi_rem hx hb ⟨by omega, by omega⟩ ⟨by decide, by decide⟩ dX9_simulate_61 ?_
        refine lv_iload hx hb dX9_simulate_62 (lv_at hl 0 rfl) ?_
        refine lv_bipush (v := iI 8) hx hb dX9_simulate_64 (by decide) ?_
        refine zi_div hx hb ⟨by omega, by omega⟩ ⟨by decide, by decide⟩ dX9_simulate_66 ?_
        refine rq_V (As := [Value.int (iI (rq9 % 8)), Value.int (iI (rq9 / 8))]) (rest := []) ⟨hx, hb, hml, hown, hts⟩ (c_X9_takeTurn l g τ x sl sv ta aj me ad bd (qSim R x1 i) (SI_sim hI x1 i) J2 hJ_i.1 hJ_i.2 rq9 hqr) gX9_simulate_X9_takeTurn cd_X9_takeTurn rfl rfl ⟨rfl, rfl⟩ ⟨Nat.le_of_ble_eq_true rfl, Nat.le_of_ble_eq_true rfl⟩ hK hP hD hS (pm4_023 _ _ _ _) 0 rfl rfl rfl rfl hl rfl (Nat.le_of_ble_eq_true rfl) dX9_simulate_67 ⟨Nat.le_of_ble_eq_true rfl, Nat.le_of_ble_eq_true rfl⟩ (fun v w h => by obtain ⟨k9, J9, -, -, -, rfl⟩ := h; exact f_xtj _ _ _ _ _ _ _ _) (fun v w1 H locs hZ hP hD hS => ?_)
        obtain ⟨k9, Jn_5, rfl, hbJn_5, hsJn_5, rfl⟩ := hZ
        have hP : va_P g vwCl ([xoC x (ta 0) (aj 0) (me 0) sl sv (ad 0) (bd 0)] ++ (stW ad R τ ++ (stW bd (qStir (qSim R x1 i) rq9) τ ++ juW aj Jn_5 τ))) H := hP.pm (pm4_023 _ _ _ _).symm
        have hD : va_D A ([xoC x (ta 0) (aj 0) (me 0) sl sv (ad 0) (bd 0)] ++ (stW ad R τ ++ (stW bd (qStir (qSim R x1 i) rq9) τ ++ juW aj Jn_5 τ))) := hD.pm (pm4_023 _ _ _ _).symm
        have hP_x := va_left hP
        have hP_s := va_left (va_right hP)
        have hP_t := va_left (va_right (va_right hP))
        have hP_j := va_right (va_right (va_right hP))
        refine tl_some ?_
        refine lv_pop hx hb dX9_simulate_70 rfl ?_
        refine zi_inc (v := ((i + 1 : Nat) : Int)) (lv' := [(6, Value.int (iI ((i + 1 : Nat) : Int))), (7, Value.int (iI rq9)), (4, Value.long (qX x1 (i + 1))), (0, Value.ref x), (1, Value.long x1), (3, Value.int (iI k1))]) hx hb dX9_simulate_71 hl (k := 2) rfl (by omega) (by decide) rfl (fun ls hl => ?_)
        refine lv_goto (tgt := 30) hx hb dX9_simulate_74 (by decide) ?_
        have hb_6 : (((i + 1) : Nat) : Int) = ((i + 1 : Nat) : Int) := by first | rfl | omega
        have hw_7 : [xoC x (ta 0) (aj 0) (me 0) sl sv (ad 0) (bd 0)] ++ (stW ad R τ ++ (stW bd (qStir (qSim R x1 i) rq9) τ ++ juW aj Jn_5 τ)) = [xoC x (ta 0) (aj 0) (me 0) sl sv (ad 0) (bd 0)] ++ (stW ad R τ ++ (stW bd (qSim R x1 (i + 1)) τ ++ juW aj Jn_5 τ)) := by rw [qSim, hqT]
        rw [hw_7] at hP hD
        exact ih_30 hl_i (Jn_5) (⟨hbJn_5, hsJn_5⟩) _ _ _ hP hD hS (lv_eq (lv_sub hl [0, 2, 3, 4, 5] rfl) (by show [(6, Value.int (iI (((i + 1) : Nat) : Int))), (4, Value.long (qX x1 (i + 1))), (0, Value.ref x), (1, Value.long x1), (3, Value.int (iI k1))] = [(6, Value.int (iI ((i + 1 : Nat) : Int))), (4, Value.long (qX x1 (i + 1))), (0, Value.ref x), (1, Value.long x1), (3, Value.int (iI k1))]; rw [hb_6]))

theorem cd_X9_save : cd yX9_save 1 := by decide +kernel
theorem in_X9_save_X4 : ∀ w ∈ wsX40, w ∈ wsX9_save := by decide +kernel
theorem in_X9_save_X6 : ∀ w ∈ wsX60, w ∈ wsX9_save := by decide +kernel
theorem in_X9_save_X9 : ∀ w ∈ wsX90, w ∈ wsX9_save := by decide +kernel
set_option maxHeartbeats 1000000 in
set_option maxRecDepth 100000 in
theorem c_X9_save (l : Launch) (hst : l.stackTraces = false) (g : va_G) (τ : Nat → ClassId) (x sl sv : Nat) (ta aj me ad bd : Nat → Nat) (R T : Nat → Nat → Int) (hI : SI R) (sf : Nat → Option Nat) (b0 : Nat) (V : Nat → Int) (hV : ∀ j, V j = 0 ∨ V j = 1) (z1 : Int) (rz1 : -2147483648 ≤ z1 ∧ z1 < 2147483648) (hsf : 0 ≤ z1 ∧ z1 < 2 → sf z1.toNat = some (bd 0))  : uMet l yX9_save wsX9_save { frames := 7, cells := 1, slots := 6, locals := 110 } g τ [Value.ref x, Value.int (iI z1)] ([xoC x (ta 0) (aj 0) (me 0) sl sv (ad 0) b0] ++ (stW ad R τ ++ (stW bd T τ ++ ([slC sl sf τ] ++ [svC sv V τ])))) (fun v w => (0 ≤ z1 ∧ z1 < 2) ∧ v = some (Value.int (iI (R 10 0))) ∧ w = [xoC x (ta 0) (aj 0) (me 0) sl sv (ad 0) b0] ++ (stW ad R τ ++ (stW bd R τ ++ ([slC sl sf τ] ++ [svC sv (updZ V z1.toNat 1) τ])))) (fun E w => ¬ (0 ≤ z1 ∧ z1 < 2) ∧ E = "java/lang/IndexOutOfBoundsException" ∧ w = [xoC x (ta 0) (aj 0) (me 0) sl sv (ad 0) b0] ++ (stW ad R τ ++ (stW bd T τ ++ ([slC sl sf τ] ++ [svC sv V τ])))) := by
  have hB := hI.hB
  have hr0 := hI.r
  have hd0 := hI.d
  have hs0 := hI.s
  have hN := hI.hN
  refine uMet_of (cc := cX9_save) (maxL := 2) (ret := (some .int)) (lv := [(0, Value.ref x), (1, Value.int (iI z1))]) (by decide) rfl (Nat.le_of_ble_eq_true rfl) rfl ?_
  intro p e s m below meth c hx hb hr hml hts hown hlocks ht A H hP hD hS hK hZT hZU ls hl
  have hP_x := va_left hP
  have hP_s := va_left (va_right hP)
  have hP_t := va_left (va_right (va_right hP))
  have hP_l := va_left (va_right (va_right (va_right hP)))
  have hP_v := va_right (va_right (va_right (va_right hP)))
  refine lv_iload_n hx hb dX9_save_0 rfl (lv_at hl 1 rfl) ?_
  refine ro_S (As := [Value.int (iI z1)]) (rest := []) (v := some (Value.int (iI (zB (decide (0 ≤ z1 ∧ z1 < 2)))))) ⟨hx, hb, hml, hown, hts⟩ (c_X9_isSlot l g τ z1 ⟨by omega, by omega⟩) gX9_save_X9_isSlot cd_X9_isSlot rfl ⟨rfl, rfl⟩ ⟨Nat.le_of_ble_eq_true rfl, Nat.le_of_ble_eq_true rfl⟩ hK (fun _ _ h => nomatch h) rfl hl rfl (Nat.le_of_ble_eq_true rfl) dX9_save_1 ⟨Nat.le_of_ble_eq_true rfl, Nat.le_of_ble_eq_true rfl⟩ ?_
  refine tl_some ?_
  refine u_must (rest := []) ⟨hx, hb, hml, hown, hts⟩ (c_X9_mustExist l g τ) (x_X9_mustExist l hst g τ) gX9_save_X9_mustExist cd_X9_mustExist rfl ⟨rfl, rfl⟩ ⟨rfl, rfl⟩ ⟨Nat.le_of_ble_eq_true rfl, Nat.le_of_ble_eq_true rfl⟩ ⟨Nat.le_of_ble_eq_true rfl, Nat.le_of_ble_eq_true rfl⟩ hK hZT hZU hP hD hS hl (decide (0 ≤ z1 ∧ z1 < 2)) rfl (Nat.le_of_ble_eq_true rfl) dX9_save_4 ⟨Nat.le_of_ble_eq_true rfl, Nat.le_of_ble_eq_true rfl⟩ ⟨Nat.le_of_ble_eq_true rfl, Nat.le_of_ble_eq_true rfl⟩ (fun c_1 H locs q9 ce9 hP hD hS a1 a2 a3 => ?_) (fun c_1 => ?_)
  · have cd_c_1 := of_decide_eq_false c_1
    exact u_out ht hlocks a1 a2 a3 hP hS ⟨Nat.le_of_ble_eq_true rfl, Nat.le_of_ble_eq_true rfl⟩ (⟨by omega, rfl, rfl⟩)
  · have cd_c_1 := of_decide_eq_true c_1
    refine lv_aload_n hx hb dX9_save_7 rfl (lv_at hl 0 rfl) ?_
    refine va_get (D := g) (ci := 9) (v := Value.ref sl) (C := RX9) (T := TX9) (N := 7) hx hb hts in_X9_save_X9 hown hK.1 hP_x 0 (rfl) rfl 3 (by decide) (hts _ (List.mem_of_getElem? (i := 1) rfl) : (Cond.fieldLink RX9 32 "CordSeals" "slots" "[LCordSeals$State;").before _ s = true) (fun _ h9 => h9) rfl dX9_save_8 ?_
    refine lv_iload_n hx hb dX9_save_11 rfl (lv_at hl 1 rfl) ?_
    refine zq_ald hx hb hK hP_l 0 4 (C := RX6) (f := sf) (rfl) rfl ((z1).toNat) (by omega) (by omega) (by decide) (hsf ⟨by omega, by omega⟩) dX9_save_12 ?_
    refine lv_aload_n hx hb dX9_save_13 rfl (lv_at hl 0 rfl) ?_
    refine va_get (D := g) (ci := 9) (v := Value.ref (ad 0)) (C := RX9) (T := TX9) (N := 7) hx hb hts in_X9_save_X9 hown hK.1 hP_x 0 (rfl) rfl 5 (by decide) (hts _ (List.mem_of_getElem? (i := 2) rfl) : (Cond.fieldLink RX9 41 "CordSeals" "state" "LCordSeals$State;").before _ s = true) (fun _ h9 => h9) rfl dX9_save_14 ?_
    refine rq_V (As := [Value.ref (ad 0)]) (rest := []) ⟨hx, hb, hml, hown, hts⟩ (c_X6_copy l g τ bd ad T R) gX9_save_X6_copy cd_X6_copy rfl rfl ⟨rfl, rfl⟩ ⟨Nat.le_of_ble_eq_true rfl, Nat.le_of_ble_eq_true rfl⟩ hK hP hD hS (pm5_21 _ _ _ _ _) 0 rfl rfl rfl rfl hl rfl (Nat.le_of_ble_eq_true rfl) dX9_save_17 ⟨Nat.le_of_ble_eq_true rfl, Nat.le_of_ble_eq_true rfl⟩ (fun v w h => by rw [h.2]; exact f_2s ad bd _ _ _ _ _) (fun v w1 H locs hZ hP hD hS => ?_)
    obtain ⟨rfl, rfl⟩ := hZ
    have hP : va_P g vwCl ([xoC x (ta 0) (aj 0) (me 0) sl sv (ad 0) b0] ++ (stW ad R τ ++ (stW bd R τ ++ ([slC sl sf τ] ++ [svC sv V τ])))) H := hP.pm (pm5_21 _ _ _ _ _).symm
    have hD : va_D A ([xoC x (ta 0) (aj 0) (me 0) sl sv (ad 0) b0] ++ (stW ad R τ ++ (stW bd R τ ++ ([slC sl sf τ] ++ [svC sv V τ])))) := hD.pm (pm5_21 _ _ _ _ _).symm
    have hP_x := va_left hP
    have hP_s := va_left (va_right hP)
    have hP_t := va_left (va_right (va_right hP))
    have hP_l := va_left (va_right (va_right (va_right hP)))
    have hP_v := va_right (va_right (va_right (va_right hP)))
    refine tl_none ?_
    refine lv_aload_n hx hb dX9_save_20 rfl (lv_at hl 0 rfl) ?_
    refine va_get (D := g) (ci := 9) (v := Value.ref sv) (C := RX9) (T := TX9) (N := 7) hx hb hts in_X9_save_X9 hown hK.1 hP_x 0 (rfl) rfl 4 (by decide) (hts _ (List.mem_of_getElem? (i := 3) rfl) : (Cond.fieldLink RX9 36 "CordSeals" "saved" "[Z").before _ s = true) (fun _ h9 => h9) rfl dX9_save_21 ?_
    refine lv_iload_n hx hb dX9_save_24 rfl (lv_at hl 1 rfl) ?_
    refine lv_iconst (v := iI 1) hx hb dX9_save_25 (by decide) ?_
    refine zz_ast hx hb hK hP hD hS 44 (f := V) (rfl) ((z1).toNat) (by omega) (by omega) (by decide) (⟨by decide, by decide⟩) dX9_save_26 (wo := [xoC x (ta 0) (aj 0) (me 0) sl sv (ad 0) b0] ++ (stW ad R τ ++ (stW bd R τ ++ ([slC sl sf τ] ++ [svC sv (updZ V ((z1).toNat) 1) τ])))) rfl (fun H locs hP hD hS => ?_)
    have hP : va_P g vwCl ([xoC x (ta 0) (aj 0) (me 0) sl sv (ad 0) b0] ++ (stW ad R τ ++ (stW bd R τ ++ ([slC sl sf τ] ++ [svC sv (updZ V ((z1).toNat) 1) τ])))) H := hP
    have hD : va_D A ([xoC x (ta 0) (aj 0) (me 0) sl sv (ad 0) b0] ++ (stW ad R τ ++ (stW bd R τ ++ ([slC sl sf τ] ++ [svC sv (updZ V ((z1).toNat) 1) τ])))) := hD
    have hP_x := va_left hP
    have hP_s := va_left (va_right hP)
    have hP_t := va_left (va_right (va_right hP))
    have hP_l := va_left (va_right (va_right (va_right hP)))
    have hP_v := va_right (va_right (va_right (va_right hP)))
    refine lv_aload_n hx hb dX9_save_27 rfl (lv_at hl 0 rfl) ?_
    refine va_get (D := g) (ci := 9) (v := Value.ref (ad 0)) (C := RX9) (T := TX9) (N := 7) hx hb hts in_X9_save_X9 hown hK.1 hP_x 0 (rfl) rfl 5 (by decide) (hts _ (List.mem_of_getElem? (i := 2) rfl) : (Cond.fieldLink RX9 41 "CordSeals" "state" "LCordSeals$State;").before _ s = true) (fun _ h9 => h9) rfl dX9_save_28 ?_
    refine va_get (D := g) (ci := 6) (v := Value.ref (ad 10)) (C := RX6) (T := TX6) (N := 5) hx hb hts in_X9_save_X6 hown hK.1 hP_s 0 (rfl) rfl 2 (by decide) (hts _ (List.mem_of_getElem? (i := 4) rfl) : (Cond.fieldLink RX9 109 "CordSeals$State" "seals" "LCordSeals$Seals;").before _ s = true) (fun _ h9 => h9) rfl dX9_save_31 ?_
    refine va_get (D := g) (ci := 4) (v := Value.int (iI (R 10 0))) (C := RX4) (T := TX4) (N := 7) hx hb hts in_X9_save_X4 hown hK.1 hP_s 10 (rfl) rfl 0 (by decide) (hts _ (List.mem_of_getElem? (i := 5) rfl) : (Cond.fieldLink RX9 113 "CordSeals$Seals" "count" "I").before _ s = true) (fun _ h9 => h9) rfl dX9_save_34 ?_
    exact u_iret hx hb hr hlocks hP hS ⟨Nat.le_of_ble_eq_true rfl, Nat.le_of_ble_eq_true rfl⟩ (⟨⟨by omega, by omega⟩, rfl, rfl⟩) dX9_save_37

set_option maxHeartbeats 1000000 in
set_option maxRecDepth 100000 in
theorem c_X2_forget2 (l : Launch) (g : va_G) (τ : Nat → ClassId) (me : Nat → Nat) (n o : Int) (rg : Nat → Option Nat)  : Met l yX2_forget wsX2_forget { frames := 0, cells := 0, slots := 0, locals := 0 } (va_Pc [Value.ref (me 0)] (rwW g τ (meW me n o rg τ))) (rwQ g (fun v w => v = none ∧ w = meW me 0 o rg τ) (inW (meW me n o rg τ))) 0 0 (inW (meW me n o rg τ)) := by
  refine rwMet (cc := cX2_forget) (maxL := 1) (ret := none) (lv := [(0, Value.ref (me 0))]) (by decide) rfl (Nat.le_of_ble_eq_true rfl) rfl ?_
  intro p e s m below meth c hx hb hr hml hts hown hlocks A H hP hD hS hK ls hl
  have hP_m := hP
  refine lv_aload_n hx hb dX2_forget_0 rfl (lv_at hl 0 rfl) ?_
  refine lv_iconst (v := iI 0) hx hb dX2_forget_1 (by decide) ?_
  refine va_put (D := g) (ci := 2) (v := Value.int (iI 0)) (ty := .int) (C := RX2) (T := TX2) (N := 3) hx hb hts in_X2_forget_X2 tyX2 tyX2_ok nmX2 hown hK.1 hP hD hS 0 (rfl) rfl 0 (by decide) (hts _ (List.mem_of_getElem? (i := 1) rfl) : (Cond.fieldLink RX2 18 "CordSeals$Memory" "count" "I").before _ s = true) (fun _ h9 => h9) rfl (by decide +kernel) rfl rfl (Nat.le_of_ble_eq_true rfl) dX2_forget_2 (fun H locs hP hD hS => ?_)
  have hP : va_P g vwCl (meW me 0 o rg τ) H := hP
  have hD : va_D A (meW me 0 o rg τ) := hD
  have hP_m := hP
  exact rw_vret hx hb hr hlocks hP hS (⟨rfl, rfl⟩) dX2_forget_5

theorem cd_X9_restore : cd yX9_restore 1 := by decide +kernel
theorem in_X9_restore_X4 : ∀ w ∈ wsX40, w ∈ wsX9_restore := by decide +kernel
theorem in_X9_restore_X6 : ∀ w ∈ wsX60, w ∈ wsX9_restore := by decide +kernel
theorem in_X9_restore_X9 : ∀ w ∈ wsX90, w ∈ wsX9_restore := by decide +kernel
set_option maxHeartbeats 1000000 in
set_option maxRecDepth 100000 in
theorem c_X9_restore (l : Launch) (hst : l.stackTraces = false) (g : va_G) (τ : Nat → ClassId) (x sl sv : Nat) (ta aj me ad bd : Nat → Nat) (R T : Nat → Nat → Int) (hT : SI T) (n o : Int) (rg : Nat → Option Nat) (sf : Nat → Option Nat) (b0 : Nat) (V : Nat → Int) (hV : ∀ j, V j = 0 ∨ V j = 1) (z1 : Int) (rz1 : -2147483648 ≤ z1 ∧ z1 < 2147483648) (hsf : 0 ≤ z1 ∧ z1 < 2 → sf z1.toNat = some (bd 0))  : uMet l yX9_restore wsX9_restore { frames := 7, cells := 1, slots := 6, locals := 110 } g τ [Value.ref x, Value.int (iI z1)] ([xoC x (ta 0) (aj 0) (me 0) sl sv (ad 0) b0] ++ (stW ad R τ ++ (stW bd T τ ++ (meW me n o rg τ ++ ([slC sl sf τ] ++ [svC sv V τ]))))) (fun v w => ((0 ≤ z1 ∧ z1 < 2) ∧ V z1.toNat = 1) ∧ v = some (Value.int (iI (T 10 0))) ∧ w = [xoC x (ta 0) (aj 0) (me 0) sl sv (ad 0) b0] ++ (stW ad T τ ++ (stW bd T τ ++ (meW me 0 o rg τ ++ ([slC sl sf τ] ++ [svC sv V τ]))))) (fun E w => ((¬ (0 ≤ z1 ∧ z1 < 2) ∧ E = "java/lang/IndexOutOfBoundsException") ∨ ((0 ≤ z1 ∧ z1 < 2) ∧ V z1.toNat = 0 ∧ E = "java/lang/IllegalStateException")) ∧ w = [xoC x (ta 0) (aj 0) (me 0) sl sv (ad 0) b0] ++ (stW ad R τ ++ (stW bd T τ ++ (meW me n o rg τ ++ ([slC sl sf τ] ++ [svC sv V τ]))))) := by
  refine uMet_of (cc := cX9_restore) (maxL := 2) (ret := (some .int)) (lv := [(0, Value.ref x), (1, Value.int (iI z1))]) (by decide) rfl (Nat.le_of_ble_eq_true rfl) rfl ?_
  intro p e s m below meth c hx hb hr hml hts hown hlocks ht A H hP hD hS hK hZT hZU ls hl
  have hP_x := va_left hP
  have hP_s := va_left (va_right hP)
  have hP_t := va_left (va_right (va_right hP))
  have hP_m := va_left (va_right (va_right (va_right hP)))
  have hP_l := va_left (va_right (va_right (va_right (va_right hP))))
  have hP_v := va_right (va_right (va_right (va_right (va_right hP))))
  refine lv_iload_n hx hb dX9_restore_0 rfl (lv_at hl 1 rfl) ?_
  refine ro_S (As := [Value.int (iI z1)]) (rest := []) (v := some (Value.int (iI (zB (decide (0 ≤ z1 ∧ z1 < 2)))))) ⟨hx, hb, hml, hown, hts⟩ (c_X9_isSlot l g τ z1 ⟨by omega, by omega⟩) gX9_restore_X9_isSlot cd_X9_isSlot rfl ⟨rfl, rfl⟩ ⟨Nat.le_of_ble_eq_true rfl, Nat.le_of_ble_eq_true rfl⟩ hK (fun _ _ h => nomatch h) rfl hl rfl (Nat.le_of_ble_eq_true rfl) dX9_restore_1 ⟨Nat.le_of_ble_eq_true rfl, Nat.le_of_ble_eq_true rfl⟩ ?_
  refine tl_some ?_
  refine u_must (rest := []) ⟨hx, hb, hml, hown, hts⟩ (c_X9_mustExist l g τ) (x_X9_mustExist l hst g τ) gX9_restore_X9_mustExist cd_X9_mustExist rfl ⟨rfl, rfl⟩ ⟨rfl, rfl⟩ ⟨Nat.le_of_ble_eq_true rfl, Nat.le_of_ble_eq_true rfl⟩ ⟨Nat.le_of_ble_eq_true rfl, Nat.le_of_ble_eq_true rfl⟩ hK hZT hZU hP hD hS hl (decide (0 ≤ z1 ∧ z1 < 2)) rfl (Nat.le_of_ble_eq_true rfl) dX9_restore_4 ⟨Nat.le_of_ble_eq_true rfl, Nat.le_of_ble_eq_true rfl⟩ ⟨Nat.le_of_ble_eq_true rfl, Nat.le_of_ble_eq_true rfl⟩ (fun c_1 H locs q9 ce9 hP hD hS a1 a2 a3 => ?_) (fun c_1 => ?_)
  · have cd_c_1 := of_decide_eq_false c_1
    exact u_out ht hlocks a1 a2 a3 hP hS ⟨Nat.le_of_ble_eq_true rfl, Nat.le_of_ble_eq_true rfl⟩ (⟨Or.inl ⟨by omega, rfl⟩, rfl⟩)
  · have cd_c_1 := of_decide_eq_true c_1
    refine lv_aload_n hx hb dX9_restore_7 rfl (lv_at hl 0 rfl) ?_
    refine va_get (D := g) (ci := 9) (v := Value.ref sv) (C := RX9) (T := TX9) (N := 7) hx hb hts in_X9_restore_X9 hown hK.1 hP_x 0 (rfl) rfl 4 (by decide) (hts _ (List.mem_of_getElem? (i := 1) rfl) : (Cond.fieldLink RX9 36 "CordSeals" "saved" "[Z").before _ s = true) (fun _ h9 => h9) rfl dX9_restore_8 ?_
    refine lv_iload_n hx hb dX9_restore_11 rfl (lv_at hl 1 rfl) ?_
    refine zz_ald hx hb hK hP_v 0 (f := V) (rfl) ((z1).toNat) (by omega) (by omega) (by decide) dX9_restore_12 ?_
    refine cv_i (y := iI (zB (decide (V z1.toNat = 1)))) (congrArg iI (by rcases hV z1.toNat with h9 | h9 <;> rw [h9] <;> rfl)) ?_
    refine u_must (rest := []) ⟨hx, hb, hml, hown, hts⟩ (c_X9_mustBeFree l g τ) (x_X9_mustBeFree l hst g τ) gX9_restore_X9_mustBeFree cd_X9_mustBeFree rfl ⟨rfl, rfl⟩ ⟨rfl, rfl⟩ ⟨Nat.le_of_ble_eq_true rfl, Nat.le_of_ble_eq_true rfl⟩ ⟨Nat.le_of_ble_eq_true rfl, Nat.le_of_ble_eq_true rfl⟩ hK hZT hZU hP hD hS hl (decide (V z1.toNat = 1)) rfl (Nat.le_of_ble_eq_true rfl) dX9_restore_13 ⟨Nat.le_of_ble_eq_true rfl, Nat.le_of_ble_eq_true rfl⟩ ⟨Nat.le_of_ble_eq_true rfl, Nat.le_of_ble_eq_true rfl⟩ (fun c_2 H locs q9 ce9 hP hD hS a1 a2 a3 => ?_) (fun c_2 => ?_)
    · have cd_c_2 := of_decide_eq_false c_2
      exact u_out ht hlocks a1 a2 a3 hP hS ⟨Nat.le_of_ble_eq_true rfl, Nat.le_of_ble_eq_true rfl⟩ (⟨Or.inr ⟨⟨by omega, by omega⟩, by have := hV z1.toNat; omega, rfl⟩, rfl⟩)
    · have cd_c_2 := of_decide_eq_true c_2
      refine lv_aload_n hx hb dX9_restore_16 rfl (lv_at hl 0 rfl) ?_
      refine va_get (D := g) (ci := 9) (v := Value.ref (ad 0)) (C := RX9) (T := TX9) (N := 7) hx hb hts in_X9_restore_X9 hown hK.1 hP_x 0 (rfl) rfl 5 (by decide) (hts _ (List.mem_of_getElem? (i := 2) rfl) : (Cond.fieldLink RX9 41 "CordSeals" "state" "LCordSeals$State;").before _ s = true) (fun _ h9 => h9) rfl dX9_restore_17 ?_
      refine lv_aload_n hx hb dX9_restore_20 rfl (lv_at hl 0 rfl) ?_
      refine va_get (D := g) (ci := 9) (v := Value.ref sl) (C := RX9) (T := TX9) (N := 7) hx hb hts in_X9_restore_X9 hown hK.1 hP_x 0 (rfl) rfl 3 (by decide) (hts _ (List.mem_of_getElem? (i := 3) rfl) : (Cond.fieldLink RX9 32 "CordSeals" "slots" "[LCordSeals$State;").before _ s = true) (fun _ h9 => h9) rfl dX9_restore_21 ?_
      refine lv_iload_n hx hb dX9_restore_24 rfl (lv_at hl 1 rfl) ?_
      refine zq_ald hx hb hK hP_l 0 4 (C := RX6) (f := sf) (rfl) rfl ((z1).toNat) (by omega) (by omega) (by decide) (hsf ⟨by omega, by omega⟩) dX9_restore_25 ?_
      refine rq_V (As := [Value.ref (bd 0)]) (rest := []) ⟨hx, hb, hml, hown, hts⟩ (c_X6_copy l g τ ad bd R T) gX9_restore_X6_copy cd_X6_copy rfl rfl ⟨rfl, rfl⟩ ⟨Nat.le_of_ble_eq_true rfl, Nat.le_of_ble_eq_true rfl⟩ hK hP hD hS (pm6_12 _ _ _ _ _ _) 0 rfl rfl rfl rfl hl rfl (Nat.le_of_ble_eq_true rfl) dX9_restore_26 ⟨Nat.le_of_ble_eq_true rfl, Nat.le_of_ble_eq_true rfl⟩ (fun v w h => by rw [h.2]; exact f_2s bd ad _ _ _ _ _) (fun v w1 H locs hZ hP hD hS => ?_)
      obtain ⟨rfl, rfl⟩ := hZ
      have hP : va_P g vwCl ([xoC x (ta 0) (aj 0) (me 0) sl sv (ad 0) b0] ++ (stW ad T τ ++ (stW bd T τ ++ (meW me n o rg τ ++ ([slC sl sf τ] ++ [svC sv V τ]))))) H := hP.pm (pm6_12 _ _ _ _ _ _).symm
      have hD : va_D A ([xoC x (ta 0) (aj 0) (me 0) sl sv (ad 0) b0] ++ (stW ad T τ ++ (stW bd T τ ++ (meW me n o rg τ ++ ([slC sl sf τ] ++ [svC sv V τ]))))) := hD.pm (pm6_12 _ _ _ _ _ _).symm
      have hP_x := va_left hP
      have hP_s := va_left (va_right hP)
      have hP_t := va_left (va_right (va_right hP))
      have hP_m := va_left (va_right (va_right (va_right hP)))
      have hP_l := va_left (va_right (va_right (va_right (va_right hP))))
      have hP_v := va_right (va_right (va_right (va_right (va_right hP))))
      refine tl_none ?_
      refine lv_aload_n hx hb dX9_restore_29 rfl (lv_at hl 0 rfl) ?_
      refine va_get (D := g) (ci := 9) (v := Value.ref (me 0)) (C := RX9) (T := TX9) (N := 7) hx hb hts in_X9_restore_X9 hown hK.1 hP_x 0 (rfl) rfl 2 (by decide) (hts _ (List.mem_of_getElem? (i := 4) rfl) : (Cond.fieldLink RX9 26 "CordSeals" "memory" "LCordSeals$Memory;").before _ s = true) (fun _ h9 => h9) rfl dX9_restore_30 ?_
      refine rq_V (As := []) (rest := []) ⟨hx, hb, hml, hown, hts⟩ (c_X2_forget2 l g τ me n o rg) gX9_restore_X2_forget cd_X2_forget rfl rfl ⟨rfl, rfl⟩ ⟨Nat.le_of_ble_eq_true rfl, Nat.le_of_ble_eq_true rfl⟩ hK hP hD hS (pm6_3 _ _ _ _ _ _) 0 rfl rfl rfl rfl hl rfl (Nat.le_of_ble_eq_true rfl) dX9_restore_33 ⟨Nat.le_of_ble_eq_true rfl, Nat.le_of_ble_eq_true rfl⟩ (fun v w h => by rw [h.2]; rfl) (fun v w1 H locs hZ hP hD hS => ?_)
      obtain ⟨rfl, rfl⟩ := hZ
      have hP : va_P g vwCl ([xoC x (ta 0) (aj 0) (me 0) sl sv (ad 0) b0] ++ (stW ad T τ ++ (stW bd T τ ++ (meW me 0 o rg τ ++ ([slC sl sf τ] ++ [svC sv V τ]))))) H := hP.pm (pm6_3 _ _ _ _ _ _).symm
      have hD : va_D A ([xoC x (ta 0) (aj 0) (me 0) sl sv (ad 0) b0] ++ (stW ad T τ ++ (stW bd T τ ++ (meW me 0 o rg τ ++ ([slC sl sf τ] ++ [svC sv V τ]))))) := hD.pm (pm6_3 _ _ _ _ _ _).symm
      have hP_x := va_left hP
      have hP_s := va_left (va_right hP)
      have hP_t := va_left (va_right (va_right hP))
      have hP_m := va_left (va_right (va_right (va_right hP)))
      have hP_l := va_left (va_right (va_right (va_right (va_right hP))))
      have hP_v := va_right (va_right (va_right (va_right (va_right hP))))
      refine tl_none ?_
      refine lv_aload_n hx hb dX9_restore_36 rfl (lv_at hl 0 rfl) ?_
      refine va_get (D := g) (ci := 9) (v := Value.ref (ad 0)) (C := RX9) (T := TX9) (N := 7) hx hb hts in_X9_restore_X9 hown hK.1 hP_x 0 (rfl) rfl 5 (by decide) (hts _ (List.mem_of_getElem? (i := 2) rfl) : (Cond.fieldLink RX9 41 "CordSeals" "state" "LCordSeals$State;").before _ s = true) (fun _ h9 => h9) rfl dX9_restore_37 ?_
      refine va_get (D := g) (ci := 6) (v := Value.ref (ad 10)) (C := RX6) (T := TX6) (N := 5) hx hb hts in_X9_restore_X6 hown hK.1 hP_s 0 (rfl) rfl 2 (by decide) (hts _ (List.mem_of_getElem? (i := 5) rfl) : (Cond.fieldLink RX9 109 "CordSeals$State" "seals" "LCordSeals$Seals;").before _ s = true) (fun _ h9 => h9) rfl dX9_restore_40 ?_
      refine va_get (D := g) (ci := 4) (v := Value.int (iI (T 10 0))) (C := RX4) (T := TX4) (N := 7) hx hb hts in_X9_restore_X4 hown hK.1 hP_s 10 (rfl) rfl 0 (by decide) (hts _ (List.mem_of_getElem? (i := 6) rfl) : (Cond.fieldLink RX9 113 "CordSeals$Seals" "count" "I").before _ s = true) (fun _ h9 => h9) rfl dX9_restore_43 ?_
      exact u_iret hx hb hr hlocks hP hS ⟨Nat.le_of_ble_eq_true rfl, Nat.le_of_ble_eq_true rfl⟩ (⟨⟨⟨by omega, by omega⟩, by omega⟩, rfl, rfl⟩) dX9_restore_46
