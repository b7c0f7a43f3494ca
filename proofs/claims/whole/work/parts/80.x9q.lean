/-! the class: its questions -/
theorem iI_zB (b : Bool) : iI (zB b) = b2 b := by cases b <;> rfl
theorem cnt_not (p : Nat → Bool) : ∀ n : Nat, cnt p n + cnt (fun s => !p s) n = n
  | 0 => rfl
  | n + 1 => by
    have h := cnt_not p n
    unfold cnt
    cases q : p n <;> simp [q] <;> omega
theorem hang_eq {R : Nat → Nat → Int} (hI : SI R) : R 10 0 - cnt (fun s => decide (R 16 s = -1)) (R 10 0).toNat = rCnt R 5 (R 10 0).toNat := by
  have h := cnt_not (fun s => decide (R 16 s = -1)) (R 10 0).toNat
  have e : rCnt R 5 (R 10 0).toNat = cnt (fun s => !decide (R 16 s = -1)) (R 10 0).toNat := by
    unfold rCnt
    refine cnt_cong (fun s _ => ?_)
    unfold cPd
    rw [if_neg (by decide), if_pos (by decide)]
    by_cases q : R 16 s = -1
    · rw [decide_eq_true q, decide_eq_false (fun z => z q)]
      rfl
    · rw [decide_eq_false q, decide_eq_true q]
      rfl
  have := hI.s
  rw [e]
  omega
theorem cnt_add {p q : Nat → Bool} {v : Nat} (hv : q v = false) (e : ∀ s, p s = (q s || decide (s = v))) : ∀ n : Nat, cnt p n = cnt q n + (if v < n then 1 else 0)
  | 0 => rfl
  | n + 1 => by
    have h := cnt_add hv e n
    have e2 := e n
    by_cases w : n = v
    · subst w
      rw [hv, decide_eq_true rfl] at e2
      rw [cnt_t e2, cnt_f hv, h, if_neg (by omega), if_pos (by omega)]
      omega
    · rw [decide_eq_false w, Bool.or_false] at e2
      cases q1 : q n
      · rw [q1] at e2
        rw [cnt_f e2, cnt_f q1, h]
        by_cases z : v < n
        · rw [if_pos z, if_pos (by omega)]
        · rw [if_neg z, if_neg (by omega)]
      · rw [q1] at e2
        rw [cnt_t e2, cnt_t q1, h]
        by_cases z : v < n
        · rw [if_pos z, if_pos (by omega)]
          all_goals omega
        · rw [if_neg z, if_neg (by omega)]
          all_goals omega
/-- the seals on the shelves below h, and of shelf h those at the places below m -/
def shU (R : Nat → Nat → Int) (h m : Nat) (s : Nat) : Bool := decide (sOf R (s : Int) < h ∨ (sOf R (s : Int) = h ∧ pOn R h (s : Int) < m))
theorem pOn_is {R : Nat → Nat → Int} (hI : SI R) {h k : Nat} (hh : h < 6) (hk : (k : Int) < R 18 h) : sOf R (R 19 (h * 6 + k)) = h ∧ pOn R h (R 19 (h * 6 + k)) = k := by
  have hn := hI.hN h hh
  have hm : k < shN R h := by unfold shN; omega
  have h1 : pOn R h (R 19 (h * 6 + k)) ≤ k := by
    rcases Nat.lt_or_ge k (pOn R h (R 19 (h * 6 + k))) with z | z
    · have h2 := fst_before (p := onS R h (R 19 (h * 6 + k))) (n := shN R h) (j := k) z
      unfold onS at h2
      rw [decide_eq_true rfl] at h2
      cases h2
    · exact z
  have h3 := on_p (R := R) (h := h) (t := R 19 (h * 6 + k)) (by omega)
  have h4 := hI.one h (pOn R h (R 19 (h * 6 + k))) h k hh hh (by unfold shN at hm; omega) hk h3
  exact ⟨sOf_is hI hh (by omega), h4.2⟩
theorem shU_s {R : Nat → Nat → Int} (hI : SI R) {h : Nat} (hh : h < 6) : ∀ m : Nat, (m : Int) ≤ R 18 h → cnt (shU R h m) (R 10 0).toNat = cnt (shU R h 0) (R 10 0).toNat + m
  | 0, _ => by simp
  | m + 1, hm => by
    have ih := shU_s hI hh m (by omega)
    have hon := hI.on h m hh (by omega)
    obtain ⟨h1, h2⟩ := pOn_is hI hh (k := m) (by omega)
    have e : ((R 19 (h * 6 + m)).toNat : Int) = R 19 (h * 6 + m) := by omega
    have key := cnt_add (p := shU R h (m + 1)) (q := shU R h m) (v := (R 19 (h * 6 + m)).toNat) (by
      unfold shU
      rw [e, h1, h2]
      exact decide_eq_false (by omega)) (fun s => by
      unfold shU
      by_cases w : s = (R 19 (h * 6 + m)).toNat
      · subst w
        rw [e, h1, h2, decide_eq_true (by omega), decide_eq_true rfl, Bool.or_true]
      · rw [decide_eq_false w, Bool.or_false]
        refine decide_eq_decide.mpr ⟨fun z => ?_, fun z => by omega⟩
        rcases z with z | ⟨z1, z2⟩
        · exact Or.inl z
        · refine Or.inr ⟨z1, ?_⟩
          rcases Nat.lt_or_ge (pOn R h s) m with y | y
          · exact y
          · exfalso
            have y2 : pOn R h s = m := by omega
            have y3 := on_p (R := R) (h := h) (t := (s : Int)) (by unfold shN; omega)
            rw [y2] at y3
            omega) (R 10 0).toNat
    rw [key, ih, if_pos (by omega)]
    all_goals omega
theorem shU_n {R : Nat → Nat → Int} (hI : SI R) {h : Nat} (hh : h < 6) : cnt (shU R (h + 1) 0) (R 10 0).toNat = cnt (shU R h 0) (R 10 0).toNat + R 18 h := by
  have hn := hI.hN h hh
  have h1 := shU_s hI hh (R 18 h).toNat (by omega)
  have e : cnt (shU R h (R 18 h).toNat) (R 10 0).toNat = cnt (shU R (h + 1) 0) (R 10 0).toNat := by
    refine cnt_cong (fun s _ => ?_)
    unfold shU
    refine decide_eq_decide.mpr ⟨fun z => Or.inl (by omega), fun z => ?_⟩
    rcases z with z | z
    · rcases Nat.lt_or_ge (sOf R s) h with y | y
      · exact Or.inl y
      · have y2 : sOf R s = h := by omega
        have y3 := sOf_y (R := R) (t := (s : Int)) (by omega)
        rw [y2] at y3
        exact Or.inr ⟨y2, by unfold shN at y3; exact y3⟩
    · omega
  rw [← e, h1]
  omega
theorem fill_eq {R : Nat → Nat → Int} (hI : SI R) : sumZ (R 18) 6 = rCnt R 7 (R 10 0).toNat := by
  have key : ∀ h : Nat, h ≤ 6 → sumZ (R 18) h = cnt (shU R h 0) (R 10 0).toNat := by
    intro h
    induction h with
    | zero =>
      intro _
      have e : cnt (shU R 0 0) (R 10 0).toNat = cnt (fun _ => false) (R 10 0).toNat := cnt_cong (fun s _ => decide_eq_false (by omega))
      have e2 : ∀ n : Nat, cnt (fun _ => false) n = 0 := by
        intro n
        induction n with
        | zero => rfl
        | succ n ih => rw [cnt_f rfl]; exact ih
      rw [e, e2]
      rfl
    | succ h ih =>
      intro hh
      rw [shU_n hI (by omega), ← ih (by omega)]
      rfl
  rw [key 6 (by omega)]
  unfold rCnt
  refine cnt_cong (fun s _ => ?_)
  unfold shU cPd
  rw [if_neg (by decide), if_neg (by decide)]
  refine decide_eq_decide.mpr ⟨fun z => by omega, fun z => Or.inl z⟩
theorem rDf_0 (R : Nat → Nat → Int) (d : Int) (n : Nat) : cnt (fun s => decide (R 11 s = d)) n = rDf R d 0 n := by
  unfold rDf
  refine cnt_cong (fun s _ => decide_eq_decide.mpr ⟨fun z => ⟨z, Or.inl rfl⟩, fun z => z.1⟩)

theorem cd_X9_about : cd yX9_about 1 := by decide +kernel
theorem in_X9_about_X0 : ∀ w ∈ wsX00, w ∈ wsX9_about := by decide +kernel
theorem in_X9_about_X3 : ∀ w ∈ wsX30, w ∈ wsX9_about := by decide +kernel
theorem in_X9_about_X4 : ∀ w ∈ wsX40, w ∈ wsX9_about := by decide +kernel
theorem in_X9_about_X6 : ∀ w ∈ wsX60, w ∈ wsX9_about := by decide +kernel
theorem in_X9_about_X9 : ∀ w ∈ wsX90, w ∈ wsX9_about := by decide +kernel
set_option maxHeartbeats 1000000 in
set_option maxRecDepth 100000 in
theorem c_X9_about (l : Launch) (hst : l.stackTraces = false) (g : va_G) (τ : Nat → ClassId) (x sl sv : Nat) (ta aj me ad bd : Nat → Nat) (R : Nat → Nat → Int) (hI : SI R) (J : Nat → Nat → Int) (hjb : HB J) (hjs : JSp J) (w1 : Int) (rw1 : -2147483648 ≤ w1 ∧ w1 < 2147483648)  : uMet l yX9_about wsX9_about { frames := 7, cells := 1, slots := 6, locals := 110 } g τ [Value.ref x, Value.int (iI w1)] ([xoC x (ta 0) (aj 0) (me 0) sl sv (ad 0) (bd 0)] ++ (stW ad R τ ++ juW aj J τ)) (fun v w => (pAbout R w1).1 = 0 ∧ v = some (Value.int (iI (pAbout R w1).2)) ∧ ∃ J2, HB J2 ∧ JSp J2 ∧ w = [xoC x (ta 0) (aj 0) (me 0) sl sv (ad 0) (bd 0)] ++ (stW ad R τ ++ juW aj J2 τ)) (fun E w => (((pAbout R w1).1 = 1 ∧ E = "java/lang/IllegalArgumentException")) ∧ w = [xoC x (ta 0) (aj 0) (me 0) sl sv (ad 0) (bd 0)] ++ (stW ad R τ ++ juW aj J τ)) := by
  have hB := hI.hB
  have hr0 := hI.r
  have hd0 := hI.d
  have hs0 := hI.s
  have hN := hI.hN
  refine uMet_of (cc := cX9_about) (maxL := 2) (ret := (some .int)) (lv := [(0, Value.ref x), (1, Value.int (iI w1))]) (by decide) rfl (Nat.le_of_ble_eq_true rfl) rfl ?_
  intro p e s m below meth c hx hb hr hml hts hown hlocks ht A H hP hD hS hK hZT hZU ls hl
  have hP_x := va_left hP
  have hP_s := va_left (va_right hP)
  have hP_j := va_right (va_right hP)
  refine lv_iload_n hx hb dX9_about_0 rfl (lv_at hl 1 rfl) ?_
  refine zi_if_lt (tgt := 14) hx hb ⟨by omega, by omega⟩ dX9_about_1 (by decide) (fun c_1 => ?_) (fun c_1 => ?_)
  · have _ := c_1
    refine lv_iconst (v := iI 0) hx hb dX9_about_14 (by decide) ?_
    refine xr_S (As := [Value.int (iI 0)]) (rest := []) ⟨hx, hb, hml, hown, hts⟩ (x_X9_mustFit l hst g τ) gX9_about_X9_mustFit cd_X9_mustFit rfl ⟨rfl, rfl⟩ ⟨Nat.le_of_ble_eq_true rfl, Nat.le_of_ble_eq_true rfl⟩ hK hZT hZU hP hD hS [] rfl rfl rfl hl rfl (Nat.le_of_ble_eq_true rfl) dX9_about_15 ⟨Nat.le_of_ble_eq_true rfl, Nat.le_of_ble_eq_true rfl⟩ (fun w1 h => by rw [h]) (fun w1 H locs q9 ce9 hZ hP hD hS a1 a2 a3 => ?_)
    subst hZ
    have hP : va_P g vwCl ([xoC x (ta 0) (aj 0) (me 0) sl sv (ad 0) (bd 0)] ++ (stW ad R τ ++ juW aj J τ)) H := hP
    exact u_out ht hlocks a1 a2 a3 hP hS ⟨Nat.le_of_ble_eq_true rfl, Nat.le_of_ble_eq_true rfl⟩ (⟨⟨by rw [pAbout, if_neg (by omega)], rfl⟩, rfl⟩)
  · have _ := c_1
    refine lv_iload_n hx hb dX9_about_4 rfl (lv_at hl 1 rfl) ?_
    refine lv_bipush (v := iI 8) hx hb dX9_about_5 (by decide) ?_
    refine zi_icmp_gt (tgt := 14) hx hb ⟨by omega, by omega⟩ ⟨by decide, by decide⟩ dX9_about_7 (by decide) (fun c_2 => ?_) (fun c_2 => ?_)
    · have _ := c_2
      refine lv_iconst (v := iI 0) hx hb dX9_about_14 (by decide) ?_
      refine xr_S (As := [Value.int (iI 0)]) (rest := []) ⟨hx, hb, hml, hown, hts⟩ (x_X9_mustFit l hst g τ) gX9_about_X9_mustFit cd_X9_mustFit rfl ⟨rfl, rfl⟩ ⟨Nat.le_of_ble_eq_true rfl, Nat.le_of_ble_eq_true rfl⟩ hK hZT hZU hP hD hS [] rfl rfl rfl hl rfl (Nat.le_of_ble_eq_true rfl) dX9_about_15 ⟨Nat.le_of_ble_eq_true rfl, Nat.le_of_ble_eq_true rfl⟩ (fun w1 h => by rw [h]) (fun w1 H locs q9 ce9 hZ hP hD hS a1 a2 a3 => ?_)
      subst hZ
      have hP : va_P g vwCl ([xoC x (ta 0) (aj 0) (me 0) sl sv (ad 0) (bd 0)] ++ (stW ad R τ ++ juW aj J τ)) H := hP
      exact u_out ht hlocks a1 a2 a3 hP hS ⟨Nat.le_of_ble_eq_true rfl, Nat.le_of_ble_eq_true rfl⟩ (⟨⟨by rw [pAbout, if_neg (by omega)], rfl⟩, rfl⟩)
    · have _ := c_2
      refine lv_iconst (v := iI 1) hx hb dX9_about_10 (by decide) ?_
      refine lv_goto (tgt := 15) hx hb dX9_about_11 (by decide) ?_
      refine ro_S (As := [Value.int (iI 1)]) (rest := []) (v := none) ⟨hx, hb, hml, hown, hts⟩ (c_X9_mustFit l g τ) gX9_about_X9_mustFit cd_X9_mustFit rfl ⟨rfl, rfl⟩ ⟨Nat.le_of_ble_eq_true rfl, Nat.le_of_ble_eq_true rfl⟩ hK (fun _ _ h => nomatch h) rfl hl rfl (Nat.le_of_ble_eq_true rfl) dX9_about_15 ⟨Nat.le_of_ble_eq_true rfl, Nat.le_of_ble_eq_true rfl⟩ ?_
      refine tl_none ?_
      refine lv_aload_n hx hb dX9_about_18 rfl (lv_at hl 0 rfl) ?_
      refine va_get (D := g) (ci := 9) (v := Value.ref (aj 0)) (C := RX9) (T := TX9) (N := 7) hx hb hts in_X9_about_X9 hown hK.1 hP_x 0 (rfl) rfl 1 (by decide) (hts _ (List.mem_of_getElem? (i := 1) rfl) : (Cond.fieldLink RX9 19 "CordSeals" "judge" "LCordSeals$Judge;").before _ s = true) (fun _ h9 => h9) rfl dX9_about_19 ?_
      refine lv_aload_n hx hb dX9_about_22 rfl (lv_at hl 0 rfl) ?_
      refine va_get (D := g) (ci := 9) (v := Value.ref (ad 0)) (C := RX9) (T := TX9) (N := 7) hx hb hts in_X9_about_X9 hown hK.1 hP_x 0 (rfl) rfl 5 (by decide) (hts _ (List.mem_of_getElem? (i := 2) rfl) : (Cond.fieldLink RX9 41 "CordSeals" "state" "LCordSeals$State;").before _ s = true) (fun _ h9 => h9) rfl dX9_about_23 ?_
      refine rq_V (As := [Value.ref (ad 0)]) (rest := []) ⟨hx, hb, hml, hown, hts⟩ (c_X1_look l g τ ad aj R J hI hjb hjs) gX9_about_X1_look cd_X1_look rfl rfl ⟨rfl, rfl⟩ ⟨Nat.le_of_ble_eq_true rfl, Nat.le_of_ble_eq_true rfl⟩ hK hP hD hS (pm3_21 _ _ _) 0 rfl rfl rfl rfl hl rfl (Nat.le_of_ble_eq_true rfl) dX9_about_26 ⟨Nat.le_of_ble_eq_true rfl, Nat.le_of_ble_eq_true rfl⟩ (fun v w h => by rw [h.2]; exact f_ju aj ad _ _ _ _) (fun v w1 H locs hZ hP hD hS => ?_)
      obtain ⟨rfl, rfl⟩ := hZ
      have hP : va_P g vwCl ([xoC x (ta 0) (aj 0) (me 0) sl sv (ad 0) (bd 0)] ++ (stW ad R τ ++ juW aj (seeJ R J) τ)) H := hP.pm (pm3_21 _ _ _).symm
      have hD : va_D A ([xoC x (ta 0) (aj 0) (me 0) sl sv (ad 0) (bd 0)] ++ (stW ad R τ ++ juW aj (seeJ R J) τ)) := hD.pm (pm3_21 _ _ _).symm
      obtain ⟨J1, hjb1, hjs1, hse1, hje⟩ : ∃ J1, HB J1 ∧ JSp J1 ∧ SEE R J1 6 ∧ seeJ R J = J1 := ⟨_, (see_ok hI hjb hjs).1, (see_ok hI hjb hjs).2, SEE_see hI J, rfl⟩
      rw [hje] at hP hD
      have hP_x := va_left hP
      have hP_s := va_left (va_right hP)
      have hP_j := va_right (va_right hP)
      refine tl_none ?_
      refine lv_iload_n hx hb dX9_about_29 rfl (lv_at hl 1 rfl) ?_
      by_cases k_3_0 : w1 = 0
      · refine zi_tabl (tgt := 76) (x := w1) k_3_0 hx hb ⟨by decide, by decide⟩ (v := 0) dX9_about_30 (by decide) (by decide) (off := 46) (by decide +kernel) (by decide) ?_
        refine lv_aload_n hx hb dX9_about_76 rfl (lv_at hl 0 rfl) ?_
        refine va_get (D := g) (ci := 9) (v := Value.ref (ad 0)) (C := RX9) (T := TX9) (N := 7) hx hb hts in_X9_about_X9 hown hK.1 hP_x 0 (rfl) rfl 5 (by decide) (hts _ (List.mem_of_getElem? (i := 2) rfl) : (Cond.fieldLink RX9 41 "CordSeals" "state" "LCordSeals$State;").before _ s = true) (fun _ h9 => h9) rfl dX9_about_77 ?_
        refine va_get (D := g) (ci := 6) (v := Value.ref (ad 1)) (C := RX6) (T := TX6) (N := 5) hx hb hts in_X9_about_X6 hown hK.1 hP_s 0 (rfl) rfl 0 (by decide) (hts _ (List.mem_of_getElem? (i := 3) rfl) : (Cond.fieldLink RX9 93 "CordSeals$State" "reigns" "LCordSeals$Reigns;").before _ s = true) (fun _ h9 => h9) rfl dX9_about_80 ?_
        refine va_get (D := g) (ci := 3) (v := Value.int (iI (R 1 0))) (C := RX3) (T := TX3) (N := 3) hx hb hts in_X9_about_X3 hown hK.1 hP_s 1 (rfl) rfl 0 (by decide) (hts _ (List.mem_of_getElem? (i := 4) rfl) : (Cond.fieldLink RX9 97 "CordSeals$Reigns" "count" "I").before _ s = true) (fun _ h9 => h9) rfl dX9_about_83 ?_
        have hb_4 := hB 1 0
        exact u_iret hx hb hr hlocks hP hS ⟨Nat.le_of_ble_eq_true rfl, Nat.le_of_ble_eq_true rfl⟩ (⟨by rw [pAbout, if_pos (by omega)], (congrArg (fun z => some (Value.int (iI z))) (show (pAbout R w1).2 = R 1 0 from by rw [pAbout, if_pos (by omega), if_pos (by omega)])).symm, ⟨_, hjb1, hjs1, rfl⟩⟩) dX9_about_86
      by_cases k_3_1 : w1 = 1
      · refine zi_tabl (tgt := 87) (x := w1) k_3_1 hx hb ⟨by decide, by decide⟩ (v := 1) dX9_about_30 (by decide) (by decide) (off := 57) (by decide +kernel) (by decide) ?_
        refine lv_aload_n hx hb dX9_about_87 rfl (lv_at hl 0 rfl) ?_
        refine va_get (D := g) (ci := 9) (v := Value.ref (ad 0)) (C := RX9) (T := TX9) (N := 7) hx hb hts in_X9_about_X9 hown hK.1 hP_x 0 (rfl) rfl 5 (by decide) (hts _ (List.mem_of_getElem? (i := 2) rfl) : (Cond.fieldLink RX9 41 "CordSeals" "state" "LCordSeals$State;").before _ s = true) (fun _ h9 => h9) rfl dX9_about_88 ?_
        refine va_get (D := g) (ci := 6) (v := Value.ref (ad 4)) (C := RX6) (T := TX6) (N := 5) hx hb hts in_X9_about_X6 hown hK.1 hP_s 0 (rfl) rfl 1 (by decide) (hts _ (List.mem_of_getElem? (i := 5) rfl) : (Cond.fieldLink RX9 102 "CordSeals$State" "dies" "LCordSeals$Dies;").before _ s = true) (fun _ h9 => h9) rfl dX9_about_91 ?_
        refine va_get (D := g) (ci := 0) (v := Value.int (iI (R 4 0))) (C := RX0) (T := TX0) (N := 6) hx hb hts in_X9_about_X0 hown hK.1 hP_s 4 (rfl) rfl 0 (by decide) (hts _ (List.mem_of_getElem? (i := 6) rfl) : (Cond.fieldLink RX9 106 "CordSeals$Dies" "count" "I").before _ s = true) (fun _ h9 => h9) rfl dX9_about_94 ?_
        have hb_5 := hB 4 0
        exact u_iret hx hb hr hlocks hP hS ⟨Nat.le_of_ble_eq_true rfl, Nat.le_of_ble_eq_true rfl⟩ (⟨by rw [pAbout, if_pos (by omega)], (congrArg (fun z => some (Value.int (iI z))) (show (pAbout R w1).2 = R 4 0 from by rw [pAbout, if_pos (by omega), if_neg (by omega), if_pos (by omega)])).symm, ⟨_, hjb1, hjs1, rfl⟩⟩) dX9_about_97
      by_cases k_3_2 : w1 = 2
      · refine zi_tabl (tgt := 98) (x := w1) k_3_2 hx hb ⟨by decide, by decide⟩ (v := 2) dX9_about_30 (by decide) (by decide) (off := 68) (by decide +kernel) (by decide) ?_
        refine lv_aload_n hx hb dX9_about_98 rfl (lv_at hl 0 rfl) ?_
        refine va_get (D := g) (ci := 9) (v := Value.ref (ad 0)) (C := RX9) (T := TX9) (N := 7) hx hb hts in_X9_about_X9 hown hK.1 hP_x 0 (rfl) rfl 5 (by decide) (hts _ (List.mem_of_getElem? (i := 2) rfl) : (Cond.fieldLink RX9 41 "CordSeals" "state" "LCordSeals$State;").before _ s = true) (fun _ h9 => h9) rfl dX9_about_99 ?_
        refine va_get (D := g) (ci := 6) (v := Value.ref (ad 10)) (C := RX6) (T := TX6) (N := 5) hx hb hts in_X9_about_X6 hown hK.1 hP_s 0 (rfl) rfl 2 (by decide) (hts _ (List.mem_of_getElem? (i := 7) rfl) : (Cond.fieldLink RX9 109 "CordSeals$State" "seals" "LCordSeals$Seals;").before _ s = true) (fun _ h9 => h9) rfl dX9_about_102 ?_
        refine va_get (D := g) (ci := 4) (v := Value.int (iI (R 10 0))) (C := RX4) (T := TX4) (N := 7) hx hb hts in_X9_about_X4 hown hK.1 hP_s 10 (rfl) rfl 0 (by decide) (hts _ (List.mem_of_getElem? (i := 8) rfl) : (Cond.fieldLink RX9 113 "CordSeals$Seals" "count" "I").before _ s = true) (fun _ h9 => h9) rfl dX9_about_105 ?_
        have hb_6 := hB 10 0
        exact u_iret hx hb hr hlocks hP hS ⟨Nat.le_of_ble_eq_true rfl, Nat.le_of_ble_eq_true rfl⟩ (⟨by rw [pAbout, if_pos (by omega)], (congrArg (fun z => some (Value.int (iI z))) (show (pAbout R w1).2 = R 10 0 from by rw [pAbout, if_pos (by omega), if_neg (by omega), if_neg (by omega), if_pos (by omega)])).symm, ⟨_, hjb1, hjs1, rfl⟩⟩) dX9_about_108
      by_cases k_3_3 : w1 = 3
      · refine zi_tabl (tgt := 109) (x := w1) k_3_3 hx hb ⟨by decide, by decide⟩ (v := 3) dX9_about_30 (by decide) (by decide) (off := 79) (by decide +kernel) (by decide) ?_
        refine lv_aload_n hx hb dX9_about_109 rfl (lv_at hl 0 rfl) ?_
        refine va_get (D := g) (ci := 9) (v := Value.ref (aj 0)) (C := RX9) (T := TX9) (N := 7) hx hb hts in_X9_about_X9 hown hK.1 hP_x 0 (rfl) rfl 1 (by decide) (hts _ (List.mem_of_getElem? (i := 1) rfl) : (Cond.fieldLink RX9 19 "CordSeals" "judge" "LCordSeals$Judge;").before _ s = true) (fun _ h9 => h9) rfl dX9_about_110 ?_
        refine lv_aload_n hx hb dX9_about_113 rfl (lv_at hl 0 rfl) ?_
        refine va_get (D := g) (ci := 9) (v := Value.ref (ad 0)) (C := RX9) (T := TX9) (N := 7) hx hb hts in_X9_about_X9 hown hK.1 hP_x 0 (rfl) rfl 5 (by decide) (hts _ (List.mem_of_getElem? (i := 2) rfl) : (Cond.fieldLink RX9 41 "CordSeals" "state" "LCordSeals$State;").before _ s = true) (fun _ h9 => h9) rfl dX9_about_114 ?_
        refine ro_V (As := [Value.ref (ad 0)]) (rest := []) (v := some (Value.int (iI (cnt (jF J1) (R 10 0).toNat)))) ⟨hx, hb, hml, hown, hts⟩ (c_X1_fakes l g τ ad aj R J1 hI hjb1) gX9_about_X1_fakes cd_X1_fakes rfl rfl ⟨rfl, rfl⟩ ⟨Nat.le_of_ble_eq_true rfl, Nat.le_of_ble_eq_true rfl⟩ hK (hP_j.app hP_s) 0 rfl rfl rfl rfl hl rfl (Nat.le_of_ble_eq_true rfl) dX9_about_117 ⟨Nat.le_of_ble_eq_true rfl, Nat.le_of_ble_eq_true rfl⟩ ?_
        refine tl_some ?_
        refine cv_i (y := iI (rFks R (R 10 0).toNat)) (congrArg iI (jF_eq hI hse1)) ?_
        exact u_iret hx hb hr hlocks hP hS ⟨Nat.le_of_ble_eq_true rfl, Nat.le_of_ble_eq_true rfl⟩ (⟨by rw [pAbout, if_pos (by omega)], (congrArg (fun z => some (Value.int (iI z))) (show (pAbout R w1).2 = rFks R (R 10 0).toNat from by rw [pAbout, if_pos (by omega), if_neg (by omega), if_neg (by omega), if_neg (by omega), if_pos (by omega)])).symm, ⟨_, hjb1, hjs1, rfl⟩⟩) dX9_about_120
      by_cases k_3_4 : w1 = 4
      · refine zi_tabl (tgt := 121) (x := w1) k_3_4 hx hb ⟨by decide, by decide⟩ (v := 4) dX9_about_30 (by decide) (by decide) (off := 91) (by decide +kernel) (by decide) ?_
        refine lv_aload_n hx hb dX9_about_121 rfl (lv_at hl 0 rfl) ?_
        refine va_get (D := g) (ci := 9) (v := Value.ref (aj 0)) (C := RX9) (T := TX9) (N := 7) hx hb hts in_X9_about_X9 hown hK.1 hP_x 0 (rfl) rfl 1 (by decide) (hts _ (List.mem_of_getElem? (i := 1) rfl) : (Cond.fieldLink RX9 19 "CordSeals" "judge" "LCordSeals$Judge;").before _ s = true) (fun _ h9 => h9) rfl dX9_about_122 ?_
        refine lv_aload_n hx hb dX9_about_125 rfl (lv_at hl 0 rfl) ?_
        refine va_get (D := g) (ci := 9) (v := Value.ref (ad 0)) (C := RX9) (T := TX9) (N := 7) hx hb hts in_X9_about_X9 hown hK.1 hP_x 0 (rfl) rfl 5 (by decide) (hts _ (List.mem_of_getElem? (i := 2) rfl) : (Cond.fieldLink RX9 41 "CordSeals" "state" "LCordSeals$State;").before _ s = true) (fun _ h9 => h9) rfl dX9_about_126 ?_
        refine ro_V (As := [Value.ref (ad 0)]) (rest := []) (v := some (Value.int (iI (cnt (jC J1) (R 10 0).toNat)))) ⟨hx, hb, hml, hown, hts⟩ (c_X1_casts l g τ ad aj R J1 hI hjb1) gX9_about_X1_casts cd_X1_casts rfl rfl ⟨rfl, rfl⟩ ⟨Nat.le_of_ble_eq_true rfl, Nat.le_of_ble_eq_true rfl⟩ hK (hP_j.app hP_s) 0 rfl rfl rfl rfl hl rfl (Nat.le_of_ble_eq_true rfl) dX9_about_129 ⟨Nat.le_of_ble_eq_true rfl, Nat.le_of_ble_eq_true rfl⟩ ?_
        refine tl_some ?_
        refine cv_i (y := iI (rCnt R 4 (R 10 0).toNat)) (congrArg iI (casts_eq hI hse1)) ?_
        refine cv_i (y := iI (rCnt R w1 (R 10 0).toNat)) (by (have hw4 : w1 = 4 := by assumption); rw [hw4]) ?_
        exact u_iret hx hb hr hlocks hP hS ⟨Nat.le_of_ble_eq_true rfl, Nat.le_of_ble_eq_true rfl⟩ (⟨by rw [pAbout, if_pos (by omega)], (congrArg (fun z => some (Value.int (iI z))) (show (pAbout R w1).2 = rCnt R w1 (R 10 0).toNat from by rw [pAbout, if_pos (by omega), if_neg (by omega), if_neg (by omega), if_neg (by omega), if_neg (by omega), if_neg (by omega), if_neg (by omega)])).symm, ⟨_, hjb1, hjs1, rfl⟩⟩) dX9_about_132
      by_cases k_3_5 : w1 = 5
      · refine zi_tabl (tgt := 133) (x := w1) k_3_5 hx hb ⟨by decide, by decide⟩ (v := 5) dX9_about_30 (by decide) (by decide) (off := 103) (by decide +kernel) (by decide) ?_
        refine lv_aload_n hx hb dX9_about_133 rfl (lv_at hl 0 rfl) ?_
        refine va_get (D := g) (ci := 9) (v := Value.ref (ad 0)) (C := RX9) (T := TX9) (N := 7) hx hb hts in_X9_about_X9 hown hK.1 hP_x 0 (rfl) rfl 5 (by decide) (hts _ (List.mem_of_getElem? (i := 2) rfl) : (Cond.fieldLink RX9 41 "CordSeals" "state" "LCordSeals$State;").before _ s = true) (fun _ h9 => h9) rfl dX9_about_134 ?_
        refine va_get (D := g) (ci := 6) (v := Value.ref (ad 10)) (C := RX6) (T := TX6) (N := 5) hx hb hts in_X9_about_X6 hown hK.1 hP_s 0 (rfl) rfl 2 (by decide) (hts _ (List.mem_of_getElem? (i := 7) rfl) : (Cond.fieldLink RX9 109 "CordSeals$State" "seals" "LCordSeals$Seals;").before _ s = true) (fun _ h9 => h9) rfl dX9_about_137 ?_
        refine ro_V (As := []) (rest := []) (v := some (Value.int (iI (R 10 0 - cnt (fun s => decide (R 16 s = (-1))) (R 10 0).toNat)))) ⟨hx, hb, hml, hown, hts⟩ (c_X4_hanging l g τ ad R hB (R 10 0).toNat (by omega) (by omega)) gX9_about_X4_hanging cd_X4_hanging rfl rfl ⟨rfl, rfl⟩ ⟨Nat.le_of_ble_eq_true rfl, Nat.le_of_ble_eq_true rfl⟩ hK (hP_s.sub [10, 11, 12, 13, 14, 15, 16] rfl) 0 rfl rfl rfl rfl hl rfl (Nat.le_of_ble_eq_true rfl) dX9_about_140 ⟨Nat.le_of_ble_eq_true rfl, Nat.le_of_ble_eq_true rfl⟩ ?_
        refine tl_some ?_
        refine cv_i (y := iI (rCnt R w1 (R 10 0).toNat)) (congrArg iI (by (have hw5 : w1 = 5 := by assumption); rw [hw5]; exact hang_eq hI)) ?_
        exact u_iret hx hb hr hlocks hP hS ⟨Nat.le_of_ble_eq_true rfl, Nat.le_of_ble_eq_true rfl⟩ (⟨by rw [pAbout, if_pos (by omega)], (congrArg (fun z => some (Value.int (iI z))) (show (pAbout R w1).2 = rCnt R w1 (R 10 0).toNat from by rw [pAbout, if_pos (by omega), if_neg (by omega), if_neg (by omega), if_neg (by omega), if_neg (by omega), if_neg (by omega), if_neg (by omega)])).symm, ⟨_, hjb1, hjs1, rfl⟩⟩) dX9_about_143
      by_cases k_3_6 : w1 = 6
      · refine zi_tabl (tgt := 144) (x := w1) k_3_6 hx hb ⟨by decide, by decide⟩ (v := 6) dX9_about_30 (by decide) (by decide) (off := 114) (by decide +kernel) (by decide) ?_
        refine lv_aload_n hx hb dX9_about_144 rfl (lv_at hl 0 rfl) ?_
        refine va_get (D := g) (ci := 9) (v := Value.ref (aj 0)) (C := RX9) (T := TX9) (N := 7) hx hb hts in_X9_about_X9 hown hK.1 hP_x 0 (rfl) rfl 1 (by decide) (hts _ (List.mem_of_getElem? (i := 1) rfl) : (Cond.fieldLink RX9 19 "CordSeals" "judge" "LCordSeals$Judge;").before _ s = true) (fun _ h9 => h9) rfl dX9_about_145 ?_
        refine lv_aload_n hx hb dX9_about_148 rfl (lv_at hl 0 rfl) ?_
        refine va_get (D := g) (ci := 9) (v := Value.ref (ad 0)) (C := RX9) (T := TX9) (N := 7) hx hb hts in_X9_about_X9 hown hK.1 hP_x 0 (rfl) rfl 5 (by decide) (hts _ (List.mem_of_getElem? (i := 2) rfl) : (Cond.fieldLink RX9 41 "CordSeals" "state" "LCordSeals$State;").before _ s = true) (fun _ h9 => h9) rfl dX9_about_149 ?_
        refine ro_V (As := [Value.ref (ad 0)]) (rest := []) (v := some (Value.int (iI (cnt (jCF R J1) 6)))) ⟨hx, hb, hml, hown, hts⟩ (c_X1_chartersWithFakes l g τ ad aj R J1 hI hjb1) gX9_about_X1_chartersWithFakes cd_X1_chartersWithFakes rfl rfl ⟨rfl, rfl⟩ ⟨Nat.le_of_ble_eq_true rfl, Nat.le_of_ble_eq_true rfl⟩ hK (hP_j.app hP_s) 0 rfl rfl rfl rfl hl rfl (Nat.le_of_ble_eq_true rfl) dX9_about_152 ⟨Nat.le_of_ble_eq_true rfl, Nat.le_of_ble_eq_true rfl⟩ ?_
        refine tl_some ?_
        refine cv_i (y := iI (rBc R 6)) (congrArg iI (jCF_eq hI hse1)) ?_
        exact u_iret hx hb hr hlocks hP hS ⟨Nat.le_of_ble_eq_true rfl, Nat.le_of_ble_eq_true rfl⟩ (⟨by rw [pAbout, if_pos (by omega)], (congrArg (fun z => some (Value.int (iI z))) (show (pAbout R w1).2 = rBc R 6 from by rw [pAbout, if_pos (by omega), if_neg (by omega), if_neg (by omega), if_neg (by omega), if_neg (by omega), if_pos (by omega)])).symm, ⟨_, hjb1, hjs1, rfl⟩⟩) dX9_about_155
      by_cases k_3_7 : w1 = 7
      · refine zi_tabl (tgt := 156) (x := w1) k_3_7 hx hb ⟨by decide, by decide⟩ (v := 7) dX9_about_30 (by decide) (by decide) (off := 126) (by decide +kernel) (by decide) ?_
        refine lv_aload_n hx hb dX9_about_156 rfl (lv_at hl 0 rfl) ?_
        refine va_get (D := g) (ci := 9) (v := Value.ref (ad 0)) (C := RX9) (T := TX9) (N := 7) hx hb hts in_X9_about_X9 hown hK.1 hP_x 0 (rfl) rfl 5 (by decide) (hts _ (List.mem_of_getElem? (i := 2) rfl) : (Cond.fieldLink RX9 41 "CordSeals" "state" "LCordSeals$State;").before _ s = true) (fun _ h9 => h9) rfl dX9_about_157 ?_
        refine va_get (D := g) (ci := 6) (v := Value.ref (ad 17)) (C := RX6) (T := TX6) (N := 5) hx hb hts in_X9_about_X6 hown hK.1 hP_s 0 (rfl) rfl 3 (by decide) (hts _ (List.mem_of_getElem? (i := 9) rfl) : (Cond.fieldLink RX9 129 "CordSeals$State" "shelves" "LCordSeals$Shelves;").before _ s = true) (fun _ h9 => h9) rfl dX9_about_160 ?_
        refine ro_V (As := []) (rest := []) (v := some (Value.int (iI (sumZ (R 18) 6)))) ⟨hx, hb, hml, hown, hts⟩ (c_X5_filled l g τ ad R hB hN) gX9_about_X5_filled cd_X5_filled rfl rfl ⟨rfl, rfl⟩ ⟨Nat.le_of_ble_eq_true rfl, Nat.le_of_ble_eq_true rfl⟩ hK (hP_s.sub [17, 18, 19] rfl) 0 rfl rfl rfl rfl hl rfl (Nat.le_of_ble_eq_true rfl) dX9_about_163 ⟨Nat.le_of_ble_eq_true rfl, Nat.le_of_ble_eq_true rfl⟩ ?_
        refine tl_some ?_
        refine cv_i (y := iI (rCnt R w1 (R 10 0).toNat)) (congrArg iI (by (have hw7 : w1 = 7 := by assumption); rw [hw7]; exact fill_eq hI)) ?_
        exact u_iret hx hb hr hlocks hP hS ⟨Nat.le_of_ble_eq_true rfl, Nat.le_of_ble_eq_true rfl⟩ (⟨by rw [pAbout, if_pos (by omega)], (congrArg (fun z => some (Value.int (iI z))) (show (pAbout R w1).2 = rCnt R w1 (R 10 0).toNat from by rw [pAbout, if_pos (by omega), if_neg (by omega), if_neg (by omega), if_neg (by omega), if_neg (by omega), if_neg (by omega), if_neg (by omega)])).symm, ⟨_, hjb1, hjs1, rfl⟩⟩) dX9_about_166
      refine zi_tablD (x := w1) (tgt := 167) ⟨by omega, by omega⟩ hx hb dX9_about_30 (by omega) (by decide) ?_
      refine lv_aload_n hx hb dX9_about_167 rfl (lv_at hl 0 rfl) ?_
      refine va_get (D := g) (ci := 9) (v := Value.ref (aj 0)) (C := RX9) (T := TX9) (N := 7) hx hb hts in_X9_about_X9 hown hK.1 hP_x 0 (rfl) rfl 1 (by decide) (hts _ (List.mem_of_getElem? (i := 1) rfl) : (Cond.fieldLink RX9 19 "CordSeals" "judge" "LCordSeals$Judge;").before _ s = true) (fun _ h9 => h9) rfl dX9_about_168 ?_
      refine lv_aload_n hx hb dX9_about_171 rfl (lv_at hl 0 rfl) ?_
      refine va_get (D := g) (ci := 9) (v := Value.ref (ad 0)) (C := RX9) (T := TX9) (N := 7) hx hb hts in_X9_about_X9 hown hK.1 hP_x 0 (rfl) rfl 5 (by decide) (hts _ (List.mem_of_getElem? (i := 2) rfl) : (Cond.fieldLink RX9 41 "CordSeals" "state" "LCordSeals$State;").before _ s = true) (fun _ h9 => h9) rfl dX9_about_172 ?_
      refine ro_V (As := [Value.ref (ad 0)]) (rest := []) (v := some (Value.int (iI (cnt (fun h => !jGood R J1 h) 6)))) ⟨hx, hb, hml, hown, hts⟩ (c_X1_badShelves l g τ ad aj R J1 hI hjb1) gX9_about_X1_badShelves cd_X1_badShelves rfl rfl ⟨rfl, rfl⟩ ⟨Nat.le_of_ble_eq_true rfl, Nat.le_of_ble_eq_true rfl⟩ hK (hP_j.app hP_s) 0 rfl rfl rfl rfl hl rfl (Nat.le_of_ble_eq_true rfl) dX9_about_175 ⟨Nat.le_of_ble_eq_true rfl, Nat.le_of_ble_eq_true rfl⟩ ?_
      refine tl_some ?_
      refine cv_i (y := iI (rBad R 6)) (congrArg iI (badSh_eq hI hse1)) ?_
      exact u_iret hx hb hr hlocks hP hS ⟨Nat.le_of_ble_eq_true rfl, Nat.le_of_ble_eq_true rfl⟩ (⟨by rw [pAbout, if_pos (by omega)], (congrArg (fun z => some (Value.int (iI z))) (show (pAbout R w1).2 = rBad R 6 from by rw [pAbout, if_pos (by omega), if_neg (by omega), if_neg (by omega), if_neg (by omega), if_neg (by omega), if_neg (by omega), if_pos (by omega)])).symm, ⟨_, hjb1, hjs1, rfl⟩⟩) dX9_about_178

theorem cd_X9_ofReign : cd yX9_ofReign 2 := by decide +kernel
theorem in_X9_ofReign_X3 : ∀ w ∈ wsX30, w ∈ wsX9_ofReign := by decide +kernel
theorem in_X9_ofReign_X6 : ∀ w ∈ wsX60, w ∈ wsX9_ofReign := by decide +kernel
theorem in_X9_ofReign_X9 : ∀ w ∈ wsX90, w ∈ wsX9_ofReign := by decide +kernel
set_option maxHeartbeats 1000000 in
set_option maxRecDepth 100000 in
theorem c_X9_ofReign (l : Launch) (hst : l.stackTraces = false) (g : va_G) (τ : Nat → ClassId) (x sl sv : Nat) (ta aj me ad bd : Nat → Nat) (R : Nat → Nat → Int) (hI : SI R) (r1 : Int) (rr1 : -2147483648 ≤ r1 ∧ r1 < 2147483648) (w1 : Int) (rw1 : -2147483648 ≤ w1 ∧ w1 < 2147483648)  : uMet l yX9_ofReign wsX9_ofReign { frames := 7, cells := 1, slots := 6, locals := 110 } g τ [Value.ref x, Value.int (iI r1), Value.int (iI w1)] ([xoC x (ta 0) (aj 0) (me 0) sl sv (ad 0) (bd 0)] ++ stW ad R τ) (fun v w => (pReign R r1 w1).1 = 0 ∧ v = some (Value.int (iI (pReign R r1 w1).2)) ∧ w = [xoC x (ta 0) (aj 0) (me 0) sl sv (ad 0) (bd 0)] ++ stW ad R τ) (fun E w => (((pReign R r1 w1).1 = 1 ∧ E = "java/lang/IndexOutOfBoundsException") ∨ ((pReign R r1 w1).1 = 2 ∧ E = "java/lang/IllegalArgumentException")) ∧ w = [xoC x (ta 0) (aj 0) (me 0) sl sv (ad 0) (bd 0)] ++ stW ad R τ) := by
  have hB := hI.hB
  have hr0 := hI.r
  have hd0 := hI.d
  have hs0 := hI.s
  have hN := hI.hN
  refine uMet_of (cc := cX9_ofReign) (maxL := 3) (ret := (some .int)) (lv := [(0, Value.ref x), (1, Value.int (iI r1)), (2, Value.int (iI w1))]) (by decide) rfl (Nat.le_of_ble_eq_true rfl) rfl ?_
  intro p e s m below meth c hx hb hr hml hts hown hlocks ht A H hP hD hS hK hZT hZU ls hl
  have hP_x := va_left hP
  have hP_s := va_right hP
  refine lv_iload_n hx hb dX9_ofReign_0 rfl (lv_at hl 1 rfl) ?_
  refine zi_if_lt (tgt := 22) hx hb ⟨by omega, by omega⟩ dX9_ofReign_1 (by decide) (fun c_1 => ?_) (fun c_1 => ?_)
  · have _ := c_1
    refine lv_iconst (v := iI 0) hx hb dX9_ofReign_22 (by decide) ?_
    refine xr_S (As := [Value.int (iI 0)]) (rest := []) ⟨hx, hb, hml, hown, hts⟩ (x_X9_mustExist l hst g τ) gX9_ofReign_X9_mustExist cd_X9_mustExist rfl ⟨rfl, rfl⟩ ⟨Nat.le_of_ble_eq_true rfl, Nat.le_of_ble_eq_true rfl⟩ hK hZT hZU hP hD hS [] rfl rfl rfl hl rfl (Nat.le_of_ble_eq_true rfl) dX9_ofReign_23 ⟨Nat.le_of_ble_eq_true rfl, Nat.le_of_ble_eq_true rfl⟩ (fun w1 h => by rw [h]) (fun w1 H locs q9 ce9 hZ hP hD hS a1 a2 a3 => ?_)
    subst hZ
    have hP : va_P g vwCl ([xoC x (ta 0) (aj 0) (me 0) sl sv (ad 0) (bd 0)] ++ stW ad R τ) H := hP
    exact u_out ht hlocks a1 a2 a3 hP hS ⟨Nat.le_of_ble_eq_true rfl, Nat.le_of_ble_eq_true rfl⟩ (⟨Or.inl ⟨by rw [pReign, if_pos (by omega)], rfl⟩, rfl⟩)
  · have _ := c_1
    refine lv_iload_n hx hb dX9_ofReign_4 rfl (lv_at hl 1 rfl) ?_
    refine lv_aload_n hx hb dX9_ofReign_5 rfl (lv_at hl 0 rfl) ?_
    refine va_get (D := g) (ci := 9) (v := Value.ref (ad 0)) (C := RX9) (T := TX9) (N := 7) hx hb hts in_X9_ofReign_X9 hown hK.1 hP_x 0 (rfl) rfl 5 (by decide) (hts _ (List.mem_of_getElem? (i := 1) rfl) : (Cond.fieldLink RX9 41 "CordSeals" "state" "LCordSeals$State;").before _ s = true) (fun _ h9 => h9) rfl dX9_ofReign_6 ?_
    refine va_get (D := g) (ci := 6) (v := Value.ref (ad 1)) (C := RX6) (T := TX6) (N := 5) hx hb hts in_X9_ofReign_X6 hown hK.1 hP_s 0 (rfl) rfl 0 (by decide) (hts _ (List.mem_of_getElem? (i := 2) rfl) : (Cond.fieldLink RX9 93 "CordSeals$State" "reigns" "LCordSeals$Reigns;").before _ s = true) (fun _ h9 => h9) rfl dX9_ofReign_9 ?_
    refine va_get (D := g) (ci := 3) (v := Value.int (iI (R 1 0))) (C := RX3) (T := TX3) (N := 3) hx hb hts in_X9_ofReign_X3 hown hK.1 hP_s 1 (rfl) rfl 0 (by decide) (hts _ (List.mem_of_getElem? (i := 3) rfl) : (Cond.fieldLink RX9 97 "CordSeals$Reigns" "count" "I").before _ s = true) (fun _ h9 => h9) rfl dX9_ofReign_12 ?_
    have hb_2 := hB 1 0
    refine zi_icmp_ge (tgt := 22) hx hb ⟨by omega, by omega⟩ ⟨by omega, by omega⟩ dX9_ofReign_15 (by decide) (fun c_3 => ?_) (fun c_3 => ?_)
    · have _ := c_3
      refine lv_iconst (v := iI 0) hx hb dX9_ofReign_22 (by decide) ?_
      refine xr_S (As := [Value.int (iI 0)]) (rest := []) ⟨hx, hb, hml, hown, hts⟩ (x_X9_mustExist l hst g τ) gX9_ofReign_X9_mustExist cd_X9_mustExist rfl ⟨rfl, rfl⟩ ⟨Nat.le_of_ble_eq_true rfl, Nat.le_of_ble_eq_true rfl⟩ hK hZT hZU hP hD hS [] rfl rfl rfl hl rfl (Nat.le_of_ble_eq_true rfl) dX9_ofReign_23 ⟨Nat.le_of_ble_eq_true rfl, Nat.le_of_ble_eq_true rfl⟩ (fun w1 h => by rw [h]) (fun w1 H locs q9 ce9 hZ hP hD hS a1 a2 a3 => ?_)
      subst hZ
      have hP : va_P g vwCl ([xoC x (ta 0) (aj 0) (me 0) sl sv (ad 0) (bd 0)] ++ stW ad R τ) H := hP
      exact u_out ht hlocks a1 a2 a3 hP hS ⟨Nat.le_of_ble_eq_true rfl, Nat.le_of_ble_eq_true rfl⟩ (⟨Or.inl ⟨by rw [pReign, if_pos (by omega)], rfl⟩, rfl⟩)
    · have _ := c_3
      refine lv_iconst (v := iI 1) hx hb dX9_ofReign_18 (by decide) ?_
      refine lv_goto (tgt := 23) hx hb dX9_ofReign_19 (by decide) ?_
      refine ro_S (As := [Value.int (iI 1)]) (rest := []) (v := none) ⟨hx, hb, hml, hown, hts⟩ (c_X9_mustExist l g τ) gX9_ofReign_X9_mustExist cd_X9_mustExist rfl ⟨rfl, rfl⟩ ⟨Nat.le_of_ble_eq_true rfl, Nat.le_of_ble_eq_true rfl⟩ hK (fun _ _ h => nomatch h) rfl hl rfl (Nat.le_of_ble_eq_true rfl) dX9_ofReign_23 ⟨Nat.le_of_ble_eq_true rfl, Nat.le_of_ble_eq_true rfl⟩ ?_
      refine tl_none ?_
      refine lv_iload_n hx hb dX9_ofReign_26 rfl (lv_at hl 2 rfl) ?_
      refine zi_if_lt (tgt := 39) hx hb ⟨by omega, by omega⟩ dX9_ofReign_27 (by decide) (fun c_4 => ?_) (fun c_4 => ?_)
      · have _ := c_4
        refine lv_iconst (v := iI 0) hx hb dX9_ofReign_39 (by decide) ?_
        refine xr_S (As := [Value.int (iI 0)]) (rest := []) ⟨hx, hb, hml, hown, hts⟩ (x_X9_mustFit l hst g τ) gX9_ofReign_X9_mustFit cd_X9_mustFit rfl ⟨rfl, rfl⟩ ⟨Nat.le_of_ble_eq_true rfl, Nat.le_of_ble_eq_true rfl⟩ hK hZT hZU hP hD hS [] rfl rfl rfl hl rfl (Nat.le_of_ble_eq_true rfl) dX9_ofReign_40 ⟨Nat.le_of_ble_eq_true rfl, Nat.le_of_ble_eq_true rfl⟩ (fun w1 h => by rw [h]) (fun w1 H locs q9 ce9 hZ hP hD hS a1 a2 a3 => ?_)
        subst hZ
        have hP : va_P g vwCl ([xoC x (ta 0) (aj 0) (me 0) sl sv (ad 0) (bd 0)] ++ stW ad R τ) H := hP
        exact u_out ht hlocks a1 a2 a3 hP hS ⟨Nat.le_of_ble_eq_true rfl, Nat.le_of_ble_eq_true rfl⟩ (⟨Or.inr (⟨by rw [pReign, if_neg (by omega), if_pos (by omega)], rfl⟩), rfl⟩)
      · have _ := c_4
        refine lv_iload_n hx hb dX9_ofReign_30 rfl (lv_at hl 2 rfl) ?_
        refine lv_iconst (v := iI 2) hx hb dX9_ofReign_31 (by decide) ?_
        refine zi_icmp_gt (tgt := 39) hx hb ⟨by omega, by omega⟩ ⟨by decide, by decide⟩ dX9_ofReign_32 (by decide) (fun c_5 => ?_) (fun c_5 => ?_)
        · have _ := c_5
          refine lv_iconst (v := iI 0) hx hb dX9_ofReign_39 (by decide) ?_
          refine xr_S (As := [Value.int (iI 0)]) (rest := []) ⟨hx, hb, hml, hown, hts⟩ (x_X9_mustFit l hst g τ) gX9_ofReign_X9_mustFit cd_X9_mustFit rfl ⟨rfl, rfl⟩ ⟨Nat.le_of_ble_eq_true rfl, Nat.le_of_ble_eq_true rfl⟩ hK hZT hZU hP hD hS [] rfl rfl rfl hl rfl (Nat.le_of_ble_eq_true rfl) dX9_ofReign_40 ⟨Nat.le_of_ble_eq_true rfl, Nat.le_of_ble_eq_true rfl⟩ (fun w1 h => by rw [h]) (fun w1 H locs q9 ce9 hZ hP hD hS a1 a2 a3 => ?_)
          subst hZ
          have hP : va_P g vwCl ([xoC x (ta 0) (aj 0) (me 0) sl sv (ad 0) (bd 0)] ++ stW ad R τ) H := hP
          exact u_out ht hlocks a1 a2 a3 hP hS ⟨Nat.le_of_ble_eq_true rfl, Nat.le_of_ble_eq_true rfl⟩ (⟨Or.inr (⟨by rw [pReign, if_neg (by omega), if_pos (by omega)], rfl⟩), rfl⟩)
        · have _ := c_5
          refine lv_iconst (v := iI 1) hx hb dX9_ofReign_35 (by decide) ?_
          refine lv_goto (tgt := 40) hx hb dX9_ofReign_36 (by decide) ?_
          refine ro_S (As := [Value.int (iI 1)]) (rest := []) (v := none) ⟨hx, hb, hml, hown, hts⟩ (c_X9_mustFit l g τ) gX9_ofReign_X9_mustFit cd_X9_mustFit rfl ⟨rfl, rfl⟩ ⟨Nat.le_of_ble_eq_true rfl, Nat.le_of_ble_eq_true rfl⟩ hK (fun _ _ h => nomatch h) rfl hl rfl (Nat.le_of_ble_eq_true rfl) dX9_ofReign_40 ⟨Nat.le_of_ble_eq_true rfl, Nat.le_of_ble_eq_true rfl⟩ ?_
          refine tl_none ?_
          refine lv_iload_n hx hb dX9_ofReign_43 rfl (lv_at hl 2 rfl) ?_
          by_cases k_6_0 : w1 = 0
          · refine zi_look (tgt := 72) (x := w1) k_6_0 hx hb ⟨by decide, by decide⟩ (v := 0) dX9_ofReign_44 (by decide) (off := 28) (by decide +kernel) (by decide) ?_
            refine lv_aload_n hx hb dX9_ofReign_72 rfl (lv_at hl 0 rfl) ?_
            refine va_get (D := g) (ci := 9) (v := Value.ref (ad 0)) (C := RX9) (T := TX9) (N := 7) hx hb hts in_X9_ofReign_X9 hown hK.1 hP_x 0 (rfl) rfl 5 (by decide) (hts _ (List.mem_of_getElem? (i := 1) rfl) : (Cond.fieldLink RX9 41 "CordSeals" "state" "LCordSeals$State;").before _ s = true) (fun _ h9 => h9) rfl dX9_ofReign_73 ?_
            refine va_get (D := g) (ci := 6) (v := Value.ref (ad 1)) (C := RX6) (T := TX6) (N := 5) hx hb hts in_X9_ofReign_X6 hown hK.1 hP_s 0 (rfl) rfl 0 (by decide) (hts _ (List.mem_of_getElem? (i := 2) rfl) : (Cond.fieldLink RX9 93 "CordSeals$State" "reigns" "LCordSeals$Reigns;").before _ s = true) (fun _ h9 => h9) rfl dX9_ofReign_76 ?_
            refine va_get (D := g) (ci := 3) (v := Value.ref (ad 2)) (C := RX3) (T := TX3) (N := 3) hx hb hts in_X9_ofReign_X3 hown hK.1 hP_s 1 (rfl) rfl 1 (by decide) (hts _ (List.mem_of_getElem? (i := 4) rfl) : (Cond.fieldLink RX9 144 "CordSeals$Reigns" "begin" "[I").before _ s = true) (fun _ h9 => h9) rfl dX9_ofReign_79 ?_
            refine lv_iload_n hx hb dX9_ofReign_82 rfl (lv_at hl 1 rfl) ?_
            refine zi_ald hx hb hK hP_s 2 (f := (R 2)) (rfl) ((r1).toNat) (by omega) (by omega) (by decide) dX9_ofReign_83 ?_
            have hb_7 := hB 2 ((r1).toNat)
            exact u_iret hx hb hr hlocks hP hS ⟨Nat.le_of_ble_eq_true rfl, Nat.le_of_ble_eq_true rfl⟩ (⟨by rw [pReign, if_neg (by omega), if_neg (by omega)], (congrArg (fun z => some (Value.int (iI z))) (show (pReign R r1 w1).2 = R 2 ((r1).toNat) from by rw [pReign, if_neg (by omega), if_neg (by omega), if_pos (by omega)])).symm, rfl⟩) dX9_ofReign_84
          by_cases k_6_1 : w1 = 1
          · refine zi_look (tgt := 85) (x := w1) k_6_1 hx hb ⟨by decide, by decide⟩ (v := 1) dX9_ofReign_44 (by decide) (off := 41) (by decide +kernel) (by decide) ?_
            refine lv_aload_n hx hb dX9_ofReign_85 rfl (lv_at hl 0 rfl) ?_
            refine va_get (D := g) (ci := 9) (v := Value.ref (ad 0)) (C := RX9) (T := TX9) (N := 7) hx hb hts in_X9_ofReign_X9 hown hK.1 hP_x 0 (rfl) rfl 5 (by decide) (hts _ (List.mem_of_getElem? (i := 1) rfl) : (Cond.fieldLink RX9 41 "CordSeals" "state" "LCordSeals$State;").before _ s = true) (fun _ h9 => h9) rfl dX9_ofReign_86 ?_
            refine va_get (D := g) (ci := 6) (v := Value.ref (ad 1)) (C := RX6) (T := TX6) (N := 5) hx hb hts in_X9_ofReign_X6 hown hK.1 hP_s 0 (rfl) rfl 0 (by decide) (hts _ (List.mem_of_getElem? (i := 2) rfl) : (Cond.fieldLink RX9 93 "CordSeals$State" "reigns" "LCordSeals$Reigns;").before _ s = true) (fun _ h9 => h9) rfl dX9_ofReign_89 ?_
            refine lv_iload_n hx hb dX9_ofReign_92 rfl (lv_at hl 1 rfl) ?_
            refine cv_i (y := iI ((r1.toNat : Nat) : Int)) (congrArg iI (by omega)) ?_
            refine ro_V (As := [Value.int (iI ((r1.toNat : Nat) : Int))]) (rest := []) (v := some (Value.int (iI (kLast R (R 1 0).toNat (r1.toNat + 1))))) ⟨hx, hb, hml, hown, hts⟩ (c_X3_endOf l g τ ad R hB (R 1 0).toNat (by omega) (by omega) r1.toNat (by omega)) gX9_ofReign_X3_endOf cd_X3_endOf rfl rfl ⟨rfl, rfl⟩ ⟨Nat.le_of_ble_eq_true rfl, Nat.le_of_ble_eq_true rfl⟩ hK (hP_s.sub [1, 2, 3] rfl) 0 rfl rfl rfl rfl hl rfl (Nat.le_of_ble_eq_true rfl) dX9_ofReign_93 ⟨Nat.le_of_ble_eq_true rfl, Nat.le_of_ble_eq_true rfl⟩ ?_
            refine tl_some ?_
            exact u_iret hx hb hr hlocks hP hS ⟨Nat.le_of_ble_eq_true rfl, Nat.le_of_ble_eq_true rfl⟩ (⟨by rw [pReign, if_neg (by omega), if_neg (by omega)], (congrArg (fun z => some (Value.int (iI z))) (show (pReign R r1 w1).2 = kLast R (R 1 0).toNat (r1.toNat + 1) from by rw [pReign, if_neg (by omega), if_neg (by omega), if_neg (by omega), if_pos (by omega)])).symm, rfl⟩) dX9_ofReign_96
          refine zi_lookD (x := w1) (tgt := 97) ⟨by omega, by omega⟩ hx hb dX9_ofReign_44 (by decide) (by simp only [Op.lookupswitch.offset_cons, if_neg (fun z : (0 : Int) = w1 => k_6_0 z.symm), if_neg (fun z : (1 : Int) = w1 => k_6_1 z.symm), Op.lookupswitch.offset_nil]) (by decide) ?_
          refine lv_aload_n hx hb dX9_ofReign_97 rfl (lv_at hl 0 rfl) ?_
          refine va_get (D := g) (ci := 9) (v := Value.ref (ad 0)) (C := RX9) (T := TX9) (N := 7) hx hb hts in_X9_ofReign_X9 hown hK.1 hP_x 0 (rfl) rfl 5 (by decide) (hts _ (List.mem_of_getElem? (i := 1) rfl) : (Cond.fieldLink RX9 41 "CordSeals" "state" "LCordSeals$State;").before _ s = true) (fun _ h9 => h9) rfl dX9_ofReign_98 ?_
          refine va_get (D := g) (ci := 6) (v := Value.ref (ad 1)) (C := RX6) (T := TX6) (N := 5) hx hb hts in_X9_ofReign_X6 hown hK.1 hP_s 0 (rfl) rfl 0 (by decide) (hts _ (List.mem_of_getElem? (i := 2) rfl) : (Cond.fieldLink RX9 93 "CordSeals$State" "reigns" "LCordSeals$Reigns;").before _ s = true) (fun _ h9 => h9) rfl dX9_ofReign_101 ?_
          refine va_get (D := g) (ci := 3) (v := Value.ref (ad 3)) (C := RX3) (T := TX3) (N := 3) hx hb hts in_X9_ofReign_X3 hown hK.1 hP_s 1 (rfl) rfl 2 (by decide) (hts _ (List.mem_of_getElem? (i := 5) rfl) : (Cond.fieldLink RX9 152 "CordSeals$Reigns" "colours" "[I").before _ s = true) (fun _ h9 => h9) rfl dX9_ofReign_104 ?_
          refine lv_iload_n hx hb dX9_ofReign_107 rfl (lv_at hl 1 rfl) ?_
          refine zi_ald hx hb hK hP_s 3 (f := (R 3)) (rfl) ((r1).toNat) (by omega) (by omega) (by decide) dX9_ofReign_108 ?_
          have hb_8 := hB 3 ((r1).toNat)
          exact u_iret hx hb hr hlocks hP hS ⟨Nat.le_of_ble_eq_true rfl, Nat.le_of_ble_eq_true rfl⟩ (⟨by rw [pReign, if_neg (by omega), if_neg (by omega)], (congrArg (fun z => some (Value.int (iI z))) (show (pReign R r1 w1).2 = R 3 ((r1).toNat) from by rw [pReign, if_neg (by omega), if_neg (by omega), if_neg (by omega), if_neg (by omega)])).symm, rfl⟩) dX9_ofReign_109

theorem cd_X9_ofDie : cd yX9_ofDie 2 := by decide +kernel
theorem in_X9_ofDie_X0 : ∀ w ∈ wsX00, w ∈ wsX9_ofDie := by decide +kernel
theorem in_X9_ofDie_X6 : ∀ w ∈ wsX60, w ∈ wsX9_ofDie := by decide +kernel
theorem in_X9_ofDie_X9 : ∀ w ∈ wsX90, w ∈ wsX9_ofDie := by decide +kernel
set_option maxHeartbeats 1000000 in
set_option maxRecDepth 100000 in
theorem c_X9_ofDie (l : Launch) (hst : l.stackTraces = false) (g : va_G) (τ : Nat → ClassId) (x sl sv : Nat) (ta aj me ad bd : Nat → Nat) (R : Nat → Nat → Int) (hI : SI R) (J : Nat → Nat → Int) (hjb : HB J) (hjs : JSp J) (d1 : Int) (rd1 : -2147483648 ≤ d1 ∧ d1 < 2147483648) (w1 : Int) (rw1 : -2147483648 ≤ w1 ∧ w1 < 2147483648)  : uMet l yX9_ofDie wsX9_ofDie { frames := 7, cells := 1, slots := 6, locals := 110 } g τ [Value.ref x, Value.int (iI d1), Value.int (iI w1)] ([xoC x (ta 0) (aj 0) (me 0) sl sv (ad 0) (bd 0)] ++ (stW ad R τ ++ juW aj J τ)) (fun v w => (pDie R d1 w1).1 = 0 ∧ v = some (Value.int (iI (pDie R d1 w1).2)) ∧ ∃ J2, HB J2 ∧ JSp J2 ∧ w = [xoC x (ta 0) (aj 0) (me 0) sl sv (ad 0) (bd 0)] ++ (stW ad R τ ++ juW aj J2 τ)) (fun E w => (((pDie R d1 w1).1 = 1 ∧ E = "java/lang/IndexOutOfBoundsException") ∨ ((pDie R d1 w1).1 = 2 ∧ E = "java/lang/IllegalArgumentException")) ∧ w = [xoC x (ta 0) (aj 0) (me 0) sl sv (ad 0) (bd 0)] ++ (stW ad R τ ++ juW aj J τ)) := by
  have hB := hI.hB
  have hr0 := hI.r
  have hd0 := hI.d
  have hs0 := hI.s
  have hN := hI.hN
  refine uMet_of (cc := cX9_ofDie) (maxL := 3) (ret := (some .int)) (lv := [(0, Value.ref x), (1, Value.int (iI d1)), (2, Value.int (iI w1))]) (by decide) rfl (Nat.le_of_ble_eq_true rfl) rfl ?_
  intro p e s m below meth c hx hb hr hml hts hown hlocks ht A H hP hD hS hK hZT hZU ls hl
  have hP_x := va_left hP
  have hP_s := va_left (va_right hP)
  have hP_j := va_right (va_right hP)
  refine lv_aload_n hx hb dX9_ofDie_0 rfl (lv_at hl 0 rfl) ?_
  refine va_get (D := g) (ci := 9) (v := Value.ref (ad 0)) (C := RX9) (T := TX9) (N := 7) hx hb hts in_X9_ofDie_X9 hown hK.1 hP_x 0 (rfl) rfl 5 (by decide) (hts _ (List.mem_of_getElem? (i := 1) rfl) : (Cond.fieldLink RX9 41 "CordSeals" "state" "LCordSeals$State;").before _ s = true) (fun _ h9 => h9) rfl dX9_ofDie_1 ?_
  refine va_get (D := g) (ci := 6) (v := Value.ref (ad 4)) (C := RX6) (T := TX6) (N := 5) hx hb hts in_X9_ofDie_X6 hown hK.1 hP_s 0 (rfl) rfl 1 (by decide) (hts _ (List.mem_of_getElem? (i := 2) rfl) : (Cond.fieldLink RX9 102 "CordSeals$State" "dies" "LCordSeals$Dies;").before _ s = true) (fun _ h9 => h9) rfl dX9_ofDie_4 ?_
  refine lv_iload_n hx hb dX9_ofDie_7 rfl (lv_at hl 1 rfl) ?_
  refine ro_V (As := [Value.int (iI d1)]) (rest := []) (v := some (Value.int (iI (zB (dHas (R 4 0) d1))))) ⟨hx, hb, hml, hown, hts⟩ (c_X0_has l g τ ad R hB d1 ⟨by omega, by omega⟩) gX9_ofDie_X0_has cd_X0_has rfl rfl ⟨rfl, rfl⟩ ⟨Nat.le_of_ble_eq_true rfl, Nat.le_of_ble_eq_true rfl⟩ hK (hP_s.sub [4, 5, 6, 7, 8, 9] rfl) 0 rfl rfl rfl rfl hl rfl (Nat.le_of_ble_eq_true rfl) dX9_ofDie_8 ⟨Nat.le_of_ble_eq_true rfl, Nat.le_of_ble_eq_true rfl⟩ ?_
  refine tl_some ?_
  refine u_must (rest := []) ⟨hx, hb, hml, hown, hts⟩ (c_X9_mustExist l g τ) (x_X9_mustExist l hst g τ) gX9_ofDie_X9_mustExist cd_X9_mustExist rfl ⟨rfl, rfl⟩ ⟨rfl, rfl⟩ ⟨Nat.le_of_ble_eq_true rfl, Nat.le_of_ble_eq_true rfl⟩ ⟨Nat.le_of_ble_eq_true rfl, Nat.le_of_ble_eq_true rfl⟩ hK hZT hZU hP hD hS hl (dHas (R 4 0) d1) rfl (Nat.le_of_ble_eq_true rfl) dX9_ofDie_11 ⟨Nat.le_of_ble_eq_true rfl, Nat.le_of_ble_eq_true rfl⟩ ⟨Nat.le_of_ble_eq_true rfl, Nat.le_of_ble_eq_true rfl⟩ (fun c_1 H locs q9 ce9 hP hD hS a1 a2 a3 => ?_) (fun c_1 => ?_)
  · have _ := c_1
    have hh : d1 < 0 ∨ R 4 0 ≤ d1 := by have := c_1; simp [dHas] at this; omega
    exact u_out ht hlocks a1 a2 a3 hP hS ⟨Nat.le_of_ble_eq_true rfl, Nat.le_of_ble_eq_true rfl⟩ (⟨Or.inl ⟨by rw [pDie, if_pos (by omega)], rfl⟩, rfl⟩)
  · have _ := c_1
    have hh : 0 ≤ d1 ∧ d1 < R 4 0 := by simpa [dHas] using c_1
    have hdd := hI.ds (d1).toNat (by omega)
    refine lv_iload_n hx hb dX9_ofDie_14 rfl (lv_at hl 2 rfl) ?_
    refine zi_if_lt (tgt := 27) hx hb ⟨by omega, by omega⟩ dX9_ofDie_15 (by decide) (fun c_2 => ?_) (fun c_2 => ?_)
    · have _ := c_2
      refine lv_iconst (v := iI 0) hx hb dX9_ofDie_27 (by decide) ?_
      refine xr_S (As := [Value.int (iI 0)]) (rest := []) ⟨hx, hb, hml, hown, hts⟩ (x_X9_mustFit l hst g τ) gX9_ofDie_X9_mustFit cd_X9_mustFit rfl ⟨rfl, rfl⟩ ⟨Nat.le_of_ble_eq_true rfl, Nat.le_of_ble_eq_true rfl⟩ hK hZT hZU hP hD hS [] rfl rfl rfl hl rfl (Nat.le_of_ble_eq_true rfl) dX9_ofDie_28 ⟨Nat.le_of_ble_eq_true rfl, Nat.le_of_ble_eq_true rfl⟩ (fun w1 h => by rw [h]) (fun w1 H locs q9 ce9 hZ hP hD hS a1 a2 a3 => ?_)
      subst hZ
      have hP : va_P g vwCl ([xoC x (ta 0) (aj 0) (me 0) sl sv (ad 0) (bd 0)] ++ (stW ad R τ ++ juW aj J τ)) H := hP
      exact u_out ht hlocks a1 a2 a3 hP hS ⟨Nat.le_of_ble_eq_true rfl, Nat.le_of_ble_eq_true rfl⟩ (⟨Or.inr (⟨by rw [pDie, if_neg (by omega), if_pos (by omega)], rfl⟩), rfl⟩)
    · have _ := c_2
      refine lv_iload_n hx hb dX9_ofDie_18 rfl (lv_at hl 2 rfl) ?_
      refine lv_iconst (v := iI 5) hx hb dX9_ofDie_19 (by decide) ?_
      refine zi_icmp_gt (tgt := 27) hx hb ⟨by omega, by omega⟩ ⟨by decide, by decide⟩ dX9_ofDie_20 (by decide) (fun c_3 => ?_) (fun c_3 => ?_)
      · have _ := c_3
        refine lv_iconst (v := iI 0) hx hb dX9_ofDie_27 (by decide) ?_
        refine xr_S (As := [Value.int (iI 0)]) (rest := []) ⟨hx, hb, hml, hown, hts⟩ (x_X9_mustFit l hst g τ) gX9_ofDie_X9_mustFit cd_X9_mustFit rfl ⟨rfl, rfl⟩ ⟨Nat.le_of_ble_eq_true rfl, Nat.le_of_ble_eq_true rfl⟩ hK hZT hZU hP hD hS [] rfl rfl rfl hl rfl (Nat.le_of_ble_eq_true rfl) dX9_ofDie_28 ⟨Nat.le_of_ble_eq_true rfl, Nat.le_of_ble_eq_true rfl⟩ (fun w1 h => by rw [h]) (fun w1 H locs q9 ce9 hZ hP hD hS a1 a2 a3 => ?_)
        subst hZ
        have hP : va_P g vwCl ([xoC x (ta 0) (aj 0) (me 0) sl sv (ad 0) (bd 0)] ++ (stW ad R τ ++ juW aj J τ)) H := hP
        exact u_out ht hlocks a1 a2 a3 hP hS ⟨Nat.le_of_ble_eq_true rfl, Nat.le_of_ble_eq_true rfl⟩ (⟨Or.inr (⟨by rw [pDie, if_neg (by omega), if_pos (by omega)], rfl⟩), rfl⟩)
      · have _ := c_3
        refine lv_iconst (v := iI 1) hx hb dX9_ofDie_23 (by decide) ?_
        refine lv_goto (tgt := 28) hx hb dX9_ofDie_24 (by decide) ?_
        refine ro_S (As := [Value.int (iI 1)]) (rest := []) (v := none) ⟨hx, hb, hml, hown, hts⟩ (c_X9_mustFit l g τ) gX9_ofDie_X9_mustFit cd_X9_mustFit rfl ⟨rfl, rfl⟩ ⟨Nat.le_of_ble_eq_true rfl, Nat.le_of_ble_eq_true rfl⟩ hK (fun _ _ h => nomatch h) rfl hl rfl (Nat.le_of_ble_eq_true rfl) dX9_ofDie_28 ⟨Nat.le_of_ble_eq_true rfl, Nat.le_of_ble_eq_true rfl⟩ ?_
        refine tl_none ?_
        refine lv_iload_n hx hb dX9_ofDie_31 rfl (lv_at hl 2 rfl) ?_
        by_cases k_4_0 : w1 = 0
        · refine zi_tabl (tgt := 68) (x := w1) k_4_0 hx hb ⟨by decide, by decide⟩ (v := 0) dX9_ofDie_32 (by decide) (by decide) (off := 36) (by decide +kernel) (by decide) ?_
          refine lv_aload_n hx hb dX9_ofDie_68 rfl (lv_at hl 0 rfl) ?_
          refine va_get (D := g) (ci := 9) (v := Value.ref (ad 0)) (C := RX9) (T := TX9) (N := 7) hx hb hts in_X9_ofDie_X9 hown hK.1 hP_x 0 (rfl) rfl 5 (by decide) (hts _ (List.mem_of_getElem? (i := 1) rfl) : (Cond.fieldLink RX9 41 "CordSeals" "state" "LCordSeals$State;").before _ s = true) (fun _ h9 => h9) rfl dX9_ofDie_69 ?_
          refine va_get (D := g) (ci := 6) (v := Value.ref (ad 4)) (C := RX6) (T := TX6) (N := 5) hx hb hts in_X9_ofDie_X6 hown hK.1 hP_s 0 (rfl) rfl 1 (by decide) (hts _ (List.mem_of_getElem? (i := 2) rfl) : (Cond.fieldLink RX9 102 "CordSeals$State" "dies" "LCordSeals$Dies;").before _ s = true) (fun _ h9 => h9) rfl dX9_ofDie_72 ?_
          refine va_get (D := g) (ci := 0) (v := Value.ref (ad 5)) (C := RX0) (T := TX0) (N := 6) hx hb hts in_X9_ofDie_X0 hown hK.1 hP_s 4 (rfl) rfl 1 (by decide) (hts _ (List.mem_of_getElem? (i := 3) rfl) : (Cond.fieldLink RX9 159 "CordSeals$Dies" "house" "[I").before _ s = true) (fun _ h9 => h9) rfl dX9_ofDie_75 ?_
          refine lv_iload_n hx hb dX9_ofDie_78 rfl (lv_at hl 1 rfl) ?_
          refine zi_ald hx hb hK hP_s 5 (f := (R 5)) (rfl) ((d1).toNat) (by omega) (by omega) (by decide) dX9_ofDie_79 ?_
          have hb_5 := hB 5 ((d1).toNat)
          exact u_iret hx hb hr hlocks hP hS ⟨Nat.le_of_ble_eq_true rfl, Nat.le_of_ble_eq_true rfl⟩ (⟨by rw [pDie, if_neg (by omega), if_neg (by omega)], (congrArg (fun z => some (Value.int (iI z))) (show (pDie R d1 w1).2 = R 5 ((d1).toNat) from by rw [pDie, if_neg (by omega), if_neg (by omega), if_pos (by omega)])).symm, ⟨J, hjb, hjs, rfl⟩⟩) dX9_ofDie_80
        by_cases k_4_1 : w1 = 1
        · refine zi_tabl (tgt := 81) (x := w1) k_4_1 hx hb ⟨by decide, by decide⟩ (v := 1) dX9_ofDie_32 (by decide) (by decide) (off := 49) (by decide +kernel) (by decide) ?_
          refine lv_aload_n hx hb dX9_ofDie_81 rfl (lv_at hl 0 rfl) ?_
          refine va_get (D := g) (ci := 9) (v := Value.ref (ad 0)) (C := RX9) (T := TX9) (N := 7) hx hb hts in_X9_ofDie_X9 hown hK.1 hP_x 0 (rfl) rfl 5 (by decide) (hts _ (List.mem_of_getElem? (i := 1) rfl) : (Cond.fieldLink RX9 41 "CordSeals" "state" "LCordSeals$State;").before _ s = true) (fun _ h9 => h9) rfl dX9_ofDie_82 ?_
          refine va_get (D := g) (ci := 6) (v := Value.ref (ad 4)) (C := RX6) (T := TX6) (N := 5) hx hb hts in_X9_ofDie_X6 hown hK.1 hP_s 0 (rfl) rfl 1 (by decide) (hts _ (List.mem_of_getElem? (i := 2) rfl) : (Cond.fieldLink RX9 102 "CordSeals$State" "dies" "LCordSeals$Dies;").before _ s = true) (fun _ h9 => h9) rfl dX9_ofDie_85 ?_
          refine va_get (D := g) (ci := 0) (v := Value.ref (ad 6)) (C := RX0) (T := TX0) (N := 6) hx hb hts in_X9_ofDie_X0 hown hK.1 hP_s 4 (rfl) rfl 2 (by decide) (hts _ (List.mem_of_getElem? (i := 4) rfl) : (Cond.fieldLink RX9 162 "CordSeals$Dies" "from" "[I").before _ s = true) (fun _ h9 => h9) rfl dX9_ofDie_88 ?_
          refine lv_iload_n hx hb dX9_ofDie_91 rfl (lv_at hl 1 rfl) ?_
          refine zi_ald hx hb hK hP_s 6 (f := (R 6)) (rfl) ((d1).toNat) (by omega) (by omega) (by decide) dX9_ofDie_92 ?_
          have hb_6 := hB 6 ((d1).toNat)
          exact u_iret hx hb hr hlocks hP hS ⟨Nat.le_of_ble_eq_true rfl, Nat.le_of_ble_eq_true rfl⟩ (⟨by rw [pDie, if_neg (by omega), if_neg (by omega)], (congrArg (fun z => some (Value.int (iI z))) (show (pDie R d1 w1).2 = R 6 ((d1).toNat) from by rw [pDie, if_neg (by omega), if_neg (by omega), if_neg (by omega), if_pos (by omega)])).symm, ⟨J, hjb, hjs, rfl⟩⟩) dX9_ofDie_93
        by_cases k_4_2 : w1 = 2
        · refine zi_tabl (tgt := 94) (x := w1) k_4_2 hx hb ⟨by decide, by decide⟩ (v := 2) dX9_ofDie_32 (by decide) (by decide) (off := 62) (by decide +kernel) (by decide) ?_
          refine lv_aload_n hx hb dX9_ofDie_94 rfl (lv_at hl 0 rfl) ?_
          refine va_get (D := g) (ci := 9) (v := Value.ref (ad 0)) (C := RX9) (T := TX9) (N := 7) hx hb hts in_X9_ofDie_X9 hown hK.1 hP_x 0 (rfl) rfl 5 (by decide) (hts _ (List.mem_of_getElem? (i := 1) rfl) : (Cond.fieldLink RX9 41 "CordSeals" "state" "LCordSeals$State;").before _ s = true) (fun _ h9 => h9) rfl dX9_ofDie_95 ?_
          refine va_get (D := g) (ci := 6) (v := Value.ref (ad 4)) (C := RX6) (T := TX6) (N := 5) hx hb hts in_X9_ofDie_X6 hown hK.1 hP_s 0 (rfl) rfl 1 (by decide) (hts _ (List.mem_of_getElem? (i := 2) rfl) : (Cond.fieldLink RX9 102 "CordSeals$State" "dies" "LCordSeals$Dies;").before _ s = true) (fun _ h9 => h9) rfl dX9_ofDie_98 ?_
          refine va_get (D := g) (ci := 0) (v := Value.ref (ad 7)) (C := RX0) (T := TX0) (N := 6) hx hb hts in_X9_ofDie_X0 hown hK.1 hP_s 4 (rfl) rfl 3 (by decide) (hts _ (List.mem_of_getElem? (i := 5) rfl) : (Cond.fieldLink RX9 165 "CordSeals$Dies" "to" "[I").before _ s = true) (fun _ h9 => h9) rfl dX9_ofDie_101 ?_
          refine lv_iload_n hx hb dX9_ofDie_104 rfl (lv_at hl 1 rfl) ?_
          refine zi_ald hx hb hK hP_s 7 (f := (R 7)) (rfl) ((d1).toNat) (by omega) (by omega) (by decide) dX9_ofDie_105 ?_
          have hb_7 := hB 7 ((d1).toNat)
          exact u_iret hx hb hr hlocks hP hS ⟨Nat.le_of_ble_eq_true rfl, Nat.le_of_ble_eq_true rfl⟩ (⟨by rw [pDie, if_neg (by omega), if_neg (by omega)], (congrArg (fun z => some (Value.int (iI z))) (show (pDie R d1 w1).2 = R 7 ((d1).toNat) from by rw [pDie, if_neg (by omega), if_neg (by omega), if_neg (by omega), if_neg (by omega), if_pos (by omega)])).symm, ⟨J, hjb, hjs, rfl⟩⟩) dX9_ofDie_106
        by_cases k_4_3 : w1 = 3
        · refine zi_tabl (tgt := 107) (x := w1) k_4_3 hx hb ⟨by decide, by decide⟩ (v := 3) dX9_ofDie_32 (by decide) (by decide) (off := 75) (by decide +kernel) (by decide) ?_
          refine lv_aload_n hx hb dX9_ofDie_107 rfl (lv_at hl 0 rfl) ?_
          refine va_get (D := g) (ci := 9) (v := Value.ref (ad 0)) (C := RX9) (T := TX9) (N := 7) hx hb hts in_X9_ofDie_X9 hown hK.1 hP_x 0 (rfl) rfl 5 (by decide) (hts _ (List.mem_of_getElem? (i := 1) rfl) : (Cond.fieldLink RX9 41 "CordSeals" "state" "LCordSeals$State;").before _ s = true) (fun _ h9 => h9) rfl dX9_ofDie_108 ?_
          refine va_get (D := g) (ci := 6) (v := Value.ref (ad 4)) (C := RX6) (T := TX6) (N := 5) hx hb hts in_X9_ofDie_X6 hown hK.1 hP_s 0 (rfl) rfl 1 (by decide) (hts _ (List.mem_of_getElem? (i := 2) rfl) : (Cond.fieldLink RX9 102 "CordSeals$State" "dies" "LCordSeals$Dies;").before _ s = true) (fun _ h9 => h9) rfl dX9_ofDie_111 ?_
          refine va_get (D := g) (ci := 0) (v := Value.ref (ad 8)) (C := RX0) (T := TX0) (N := 6) hx hb hts in_X9_ofDie_X0 hown hK.1 hP_s 4 (rfl) rfl 4 (by decide) (hts _ (List.mem_of_getElem? (i := 6) rfl) : (Cond.fieldLink RX9 168 "CordSeals$Dies" "cracks" "[I").before _ s = true) (fun _ h9 => h9) rfl dX9_ofDie_114 ?_
          refine lv_iload_n hx hb dX9_ofDie_117 rfl (lv_at hl 1 rfl) ?_
          refine zi_ald hx hb hK hP_s 8 (f := (R 8)) (rfl) ((d1).toNat) (by omega) (by omega) (by decide) dX9_ofDie_118 ?_
          have hb_8 := hB 8 ((d1).toNat)
          exact u_iret hx hb hr hlocks hP hS ⟨Nat.le_of_ble_eq_true rfl, Nat.le_of_ble_eq_true rfl⟩ (⟨by rw [pDie, if_neg (by omega), if_neg (by omega)], (congrArg (fun z => some (Value.int (iI z))) (show (pDie R d1 w1).2 = R 8 ((d1).toNat) from by rw [pDie, if_neg (by omega), if_neg (by omega), if_neg (by omega), if_neg (by omega), if_neg (by omega), if_pos (by omega)])).symm, ⟨J, hjb, hjs, rfl⟩⟩) dX9_ofDie_119
        by_cases k_4_4 : w1 = 4
        · refine zi_tabl (tgt := 120) (x := w1) k_4_4 hx hb ⟨by decide, by decide⟩ (v := 4) dX9_ofDie_32 (by decide) (by decide) (off := 88) (by decide +kernel) (by decide) ?_
          refine lv_aload_n hx hb dX9_ofDie_120 rfl (lv_at hl 0 rfl) ?_
          refine va_get (D := g) (ci := 9) (v := Value.ref (ad 0)) (C := RX9) (T := TX9) (N := 7) hx hb hts in_X9_ofDie_X9 hown hK.1 hP_x 0 (rfl) rfl 5 (by decide) (hts _ (List.mem_of_getElem? (i := 1) rfl) : (Cond.fieldLink RX9 41 "CordSeals" "state" "LCordSeals$State;").before _ s = true) (fun _ h9 => h9) rfl dX9_ofDie_121 ?_
          refine va_get (D := g) (ci := 6) (v := Value.ref (ad 10)) (C := RX6) (T := TX6) (N := 5) hx hb hts in_X9_ofDie_X6 hown hK.1 hP_s 0 (rfl) rfl 2 (by decide) (hts _ (List.mem_of_getElem? (i := 7) rfl) : (Cond.fieldLink RX9 109 "CordSeals$State" "seals" "LCordSeals$Seals;").before _ s = true) (fun _ h9 => h9) rfl dX9_ofDie_124 ?_
          refine lv_iload_n hx hb dX9_ofDie_127 rfl (lv_at hl 1 rfl) ?_
          refine ro_V (As := [Value.int (iI d1)]) (rest := []) (v := some (Value.int (iI (cnt (fun s => decide (R 11 s = d1)) (R 10 0).toNat)))) ⟨hx, hb, hml, hown, hts⟩ (c_X4_ofOneDie l g τ ad R hB (R 10 0).toNat (by omega) (by omega) d1 ⟨by omega, by omega⟩) gX9_ofDie_X4_ofOneDie cd_X4_ofOneDie rfl rfl ⟨rfl, rfl⟩ ⟨Nat.le_of_ble_eq_true rfl, Nat.le_of_ble_eq_true rfl⟩ hK (hP_s.sub [10, 11, 12, 13, 14, 15, 16] rfl) 0 rfl rfl rfl rfl hl rfl (Nat.le_of_ble_eq_true rfl) dX9_ofDie_128 ⟨Nat.le_of_ble_eq_true rfl, Nat.le_of_ble_eq_true rfl⟩ ?_
          refine tl_some ?_
          refine cv_i (y := iI (rDf R d1 0 (R 10 0).toNat)) (congrArg iI (rDf_0 R d1 _)) ?_
          exact u_iret hx hb hr hlocks hP hS ⟨Nat.le_of_ble_eq_true rfl, Nat.le_of_ble_eq_true rfl⟩ (⟨by rw [pDie, if_neg (by omega), if_neg (by omega)], (congrArg (fun z => some (Value.int (iI z))) (show (pDie R d1 w1).2 = rDf R d1 0 (R 10 0).toNat from by rw [pDie, if_neg (by omega), if_neg (by omega), if_neg (by omega), if_neg (by omega), if_neg (by omega), if_neg (by omega)]; rw [if_neg (by omega)])).symm, ⟨J, hjb, hjs, rfl⟩⟩) dX9_ofDie_131
        refine zi_tablD (x := w1) (tgt := 132) ⟨by omega, by omega⟩ hx hb dX9_ofDie_32 (by omega) (by decide) ?_
        refine lv_aload_n hx hb dX9_ofDie_132 rfl (lv_at hl 0 rfl) ?_
        refine va_get (D := g) (ci := 9) (v := Value.ref (aj 0)) (C := RX9) (T := TX9) (N := 7) hx hb hts in_X9_ofDie_X9 hown hK.1 hP_x 0 (rfl) rfl 1 (by decide) (hts _ (List.mem_of_getElem? (i := 8) rfl) : (Cond.fieldLink RX9 19 "CordSeals" "judge" "LCordSeals$Judge;").before _ s = true) (fun _ h9 => h9) rfl dX9_ofDie_133 ?_
        refine lv_aload_n hx hb dX9_ofDie_136 rfl (lv_at hl 0 rfl) ?_
        refine va_get (D := g) (ci := 9) (v := Value.ref (ad 0)) (C := RX9) (T := TX9) (N := 7) hx hb hts in_X9_ofDie_X9 hown hK.1 hP_x 0 (rfl) rfl 5 (by decide) (hts _ (List.mem_of_getElem? (i := 1) rfl) : (Cond.fieldLink RX9 41 "CordSeals" "state" "LCordSeals$State;").before _ s = true) (fun _ h9 => h9) rfl dX9_ofDie_137 ?_
        refine rq_V (As := [Value.ref (ad 0)]) (rest := []) ⟨hx, hb, hml, hown, hts⟩ (c_X1_look l g τ ad aj R J hI hjb hjs) gX9_ofDie_X1_look cd_X1_look rfl rfl ⟨rfl, rfl⟩ ⟨Nat.le_of_ble_eq_true rfl, Nat.le_of_ble_eq_true rfl⟩ hK hP hD hS (pm3_21 _ _ _) 0 rfl rfl rfl rfl hl rfl (Nat.le_of_ble_eq_true rfl) dX9_ofDie_140 ⟨Nat.le_of_ble_eq_true rfl, Nat.le_of_ble_eq_true rfl⟩ (fun v w h => by rw [h.2]; exact f_ju aj ad _ _ _ _) (fun v w1 H locs hZ hP hD hS => ?_)
        obtain ⟨rfl, rfl⟩ := hZ
        have hP : va_P g vwCl ([xoC x (ta 0) (aj 0) (me 0) sl sv (ad 0) (bd 0)] ++ (stW ad R τ ++ juW aj (seeJ R J) τ)) H := hP.pm (pm3_21 _ _ _).symm
        have hD : va_D A ([xoC x (ta 0) (aj 0) (me 0) sl sv (ad 0) (bd 0)] ++ (stW ad R τ ++ juW aj (seeJ R J) τ)) := hD.pm (pm3_21 _ _ _).symm
        obtain ⟨J1, hjb1, hjs1, hse1, hje⟩ : ∃ J1, HB J1 ∧ JSp J1 ∧ SEE R J1 6 ∧ seeJ R J = J1 := ⟨_, (see_ok hI hjb hjs).1, (see_ok hI hjb hjs).2, SEE_see hI J, rfl⟩
        rw [hje] at hP hD
        have hP_x := va_left hP
        have hP_s := va_left (va_right hP)
        have hP_j := va_right (va_right hP)
        refine tl_none ?_
        refine lv_aload_n hx hb dX9_ofDie_143 rfl (lv_at hl 0 rfl) ?_
        refine va_get (D := g) (ci := 9) (v := Value.ref (aj 0)) (C := RX9) (T := TX9) (N := 7) hx hb hts in_X9_ofDie_X9 hown hK.1 hP_x 0 (rfl) rfl 1 (by decide) (hts _ (List.mem_of_getElem? (i := 8) rfl) : (Cond.fieldLink RX9 19 "CordSeals" "judge" "LCordSeals$Judge;").before _ s = true) (fun _ h9 => h9) rfl dX9_ofDie_144 ?_
        refine lv_aload_n hx hb dX9_ofDie_147 rfl (lv_at hl 0 rfl) ?_
        refine va_get (D := g) (ci := 9) (v := Value.ref (ad 0)) (C := RX9) (T := TX9) (N := 7) hx hb hts in_X9_ofDie_X9 hown hK.1 hP_x 0 (rfl) rfl 5 (by decide) (hts _ (List.mem_of_getElem? (i := 1) rfl) : (Cond.fieldLink RX9 41 "CordSeals" "state" "LCordSeals$State;").before _ s = true) (fun _ h9 => h9) rfl dX9_ofDie_148 ?_
        refine lv_iload_n hx hb dX9_ofDie_151 rfl (lv_at hl 1 rfl) ?_
        refine ro_V (As := [Value.ref (ad 0), Value.int (iI d1)]) (rest := []) (v := some (Value.int (iI (cnt (jFD R J1 d1) (R 10 0).toNat)))) ⟨hx, hb, hml, hown, hts⟩ (c_X1_fakesOfDie l g τ ad aj R J1 hI hjb1 d1 ⟨by omega, by omega⟩) gX9_ofDie_X1_fakesOfDie cd_X1_fakesOfDie rfl rfl ⟨rfl, rfl⟩ ⟨Nat.le_of_ble_eq_true rfl, Nat.le_of_ble_eq_true rfl⟩ hK (hP_j.app hP_s) 0 rfl rfl rfl rfl hl rfl (Nat.le_of_ble_eq_true rfl) dX9_ofDie_152 ⟨Nat.le_of_ble_eq_true rfl, Nat.le_of_ble_eq_true rfl⟩ ?_
        refine tl_some ?_
        refine cv_i (y := iI (rDf R d1 1 (R 10 0).toNat)) (congrArg iI (jFD_eq hI hse1 d1)) ?_
        exact u_iret hx hb hr hlocks hP hS ⟨Nat.le_of_ble_eq_true rfl, Nat.le_of_ble_eq_true rfl⟩ (⟨by rw [pDie, if_neg (by omega), if_neg (by omega)], (congrArg (fun z => some (Value.int (iI z))) (show (pDie R d1 w1).2 = rDf R d1 1 (R 10 0).toNat from by rw [pDie, if_neg (by omega), if_neg (by omega), if_neg (by omega), if_neg (by omega), if_neg (by omega), if_neg (by omega)]; rw [if_pos (by omega)])).symm, ⟨_, hjb1, hjs1, rfl⟩⟩) dX9_ofDie_155

theorem cd_X9_crackYear : cd yX9_crackYear 2 := by decide +kernel
theorem in_X9_crackYear_X0 : ∀ w ∈ wsX00, w ∈ wsX9_crackYear := by decide +kernel
theorem in_X9_crackYear_X6 : ∀ w ∈ wsX60, w ∈ wsX9_crackYear := by decide +kernel
theorem in_X9_crackYear_X9 : ∀ w ∈ wsX90, w ∈ wsX9_crackYear := by decide +kernel
set_option maxHeartbeats 1000000 in
set_option maxRecDepth 100000 in
theorem c_X9_crackYear (l : Launch) (hst : l.stackTraces = false) (g : va_G) (τ : Nat → ClassId) (x sl sv : Nat) (ta aj me ad bd : Nat → Nat) (R : Nat → Nat → Int) (hI : SI R) (d1 : Int) (rd1 : -2147483648 ≤ d1 ∧ d1 < 2147483648) (k1 : Int) (rk1 : -2147483648 ≤ k1 ∧ k1 < 2147483648)  : uMet l yX9_crackYear wsX9_crackYear { frames := 7, cells := 1, slots := 6, locals := 110 } g τ [Value.ref x, Value.int (iI d1), Value.int (iI k1)] ([xoC x (ta 0) (aj 0) (me 0) sl sv (ad 0) (bd 0)] ++ stW ad R τ) (fun v w => (pCrack R d1 k1).1 = 0 ∧ v = some (Value.int (iI (pCrack R d1 k1).2)) ∧ w = [xoC x (ta 0) (aj 0) (me 0) sl sv (ad 0) (bd 0)] ++ stW ad R τ) (fun E w => (((pCrack R d1 k1).1 = 1 ∧ E = "java/lang/IndexOutOfBoundsException")) ∧ w = [xoC x (ta 0) (aj 0) (me 0) sl sv (ad 0) (bd 0)] ++ stW ad R τ) := by
  have hB := hI.hB
  have hr0 := hI.r
  have hd0 := hI.d
  have hs0 := hI.s
  have hN := hI.hN
  refine uMet_of (cc := cX9_crackYear) (maxL := 3) (ret := (some .int)) (lv := [(0, Value.ref x), (1, Value.int (iI d1)), (2, Value.int (iI k1))]) (by decide) rfl (Nat.le_of_ble_eq_true rfl) rfl ?_
  intro p e s m below meth c hx hb hr hml hts hown hlocks ht A H hP hD hS hK hZT hZU ls hl
  have hP_x := va_left hP
  have hP_s := va_right hP
  refine lv_aload_n hx hb dX9_crackYear_0 rfl (lv_at hl 0 rfl) ?_
  refine va_get (D := g) (ci := 9) (v := Value.ref (ad 0)) (C := RX9) (T := TX9) (N := 7) hx hb hts in_X9_crackYear_X9 hown hK.1 hP_x 0 (rfl) rfl 5 (by decide) (hts _ (List.mem_of_getElem? (i := 1) rfl) : (Cond.fieldLink RX9 41 "CordSeals" "state" "LCordSeals$State;").before _ s = true) (fun _ h9 => h9) rfl dX9_crackYear_1 ?_
  refine va_get (D := g) (ci := 6) (v := Value.ref (ad 4)) (C := RX6) (T := TX6) (N := 5) hx hb hts in_X9_crackYear_X6 hown hK.1 hP_s 0 (rfl) rfl 1 (by decide) (hts _ (List.mem_of_getElem? (i := 2) rfl) : (Cond.fieldLink RX9 102 "CordSeals$State" "dies" "LCordSeals$Dies;").before _ s = true) (fun _ h9 => h9) rfl dX9_crackYear_4 ?_
  refine lv_iload_n hx hb dX9_crackYear_7 rfl (lv_at hl 1 rfl) ?_
  refine ro_V (As := [Value.int (iI d1)]) (rest := []) (v := some (Value.int (iI (zB (dHas (R 4 0) d1))))) ⟨hx, hb, hml, hown, hts⟩ (c_X0_has l g τ ad R hB d1 ⟨by omega, by omega⟩) gX9_crackYear_X0_has cd_X0_has rfl rfl ⟨rfl, rfl⟩ ⟨Nat.le_of_ble_eq_true rfl, Nat.le_of_ble_eq_true rfl⟩ hK (hP_s.sub [4, 5, 6, 7, 8, 9] rfl) 0 rfl rfl rfl rfl hl rfl (Nat.le_of_ble_eq_true rfl) dX9_crackYear_8 ⟨Nat.le_of_ble_eq_true rfl, Nat.le_of_ble_eq_true rfl⟩ ?_
  refine tl_some ?_
  refine u_must (rest := []) ⟨hx, hb, hml, hown, hts⟩ (c_X9_mustExist l g τ) (x_X9_mustExist l hst g τ) gX9_crackYear_X9_mustExist cd_X9_mustExist rfl ⟨rfl, rfl⟩ ⟨rfl, rfl⟩ ⟨Nat.le_of_ble_eq_true rfl, Nat.le_of_ble_eq_true rfl⟩ ⟨Nat.le_of_ble_eq_true rfl, Nat.le_of_ble_eq_true rfl⟩ hK hZT hZU hP hD hS hl (dHas (R 4 0) d1) rfl (Nat.le_of_ble_eq_true rfl) dX9_crackYear_11 ⟨Nat.le_of_ble_eq_true rfl, Nat.le_of_ble_eq_true rfl⟩ ⟨Nat.le_of_ble_eq_true rfl, Nat.le_of_ble_eq_true rfl⟩ (fun c_1 H locs q9 ce9 hP hD hS a1 a2 a3 => ?_) (fun c_1 => ?_)
  · have _ := c_1
    have hh : d1 < 0 ∨ R 4 0 ≤ d1 := by have := c_1; simp [dHas] at this; omega
    exact u_out ht hlocks a1 a2 a3 hP hS ⟨Nat.le_of_ble_eq_true rfl, Nat.le_of_ble_eq_true rfl⟩ (⟨⟨by rw [pCrack, if_pos (by omega)], rfl⟩, rfl⟩)
  · have _ := c_1
    have hh : 0 ≤ d1 ∧ d1 < R 4 0 := by simpa [dHas] using c_1
    have hdd := hI.ds (d1).toNat (by omega)
    refine lv_iload_n hx hb dX9_crackYear_14 rfl (lv_at hl 2 rfl) ?_
    refine zi_if_lt (tgt := 38) hx hb ⟨by omega, by omega⟩ dX9_crackYear_15 (by decide) (fun c_2 => ?_) (fun c_2 => ?_)
    · have _ := c_2
      refine lv_iconst (v := iI 0) hx hb dX9_crackYear_38 (by decide) ?_
      refine xr_S (As := [Value.int (iI 0)]) (rest := []) ⟨hx, hb, hml, hown, hts⟩ (x_X9_mustExist l hst g τ) gX9_crackYear_X9_mustExist cd_X9_mustExist rfl ⟨rfl, rfl⟩ ⟨Nat.le_of_ble_eq_true rfl, Nat.le_of_ble_eq_true rfl⟩ hK hZT hZU hP hD hS [] rfl rfl rfl hl rfl (Nat.le_of_ble_eq_true rfl) dX9_crackYear_39 ⟨Nat.le_of_ble_eq_true rfl, Nat.le_of_ble_eq_true rfl⟩ (fun w1 h => by rw [h]) (fun w1 H locs q9 ce9 hZ hP hD hS a1 a2 a3 => ?_)
      subst hZ
      have hP : va_P g vwCl ([xoC x (ta 0) (aj 0) (me 0) sl sv (ad 0) (bd 0)] ++ stW ad R τ) H := hP
      exact u_out ht hlocks a1 a2 a3 hP hS ⟨Nat.le_of_ble_eq_true rfl, Nat.le_of_ble_eq_true rfl⟩ (⟨⟨by rw [pCrack, if_pos (by omega)], rfl⟩, rfl⟩)
    · have _ := c_2
      refine lv_iload_n hx hb dX9_crackYear_18 rfl (lv_at hl 2 rfl) ?_
      refine lv_aload_n hx hb dX9_crackYear_19 rfl (lv_at hl 0 rfl) ?_
      refine va_get (D := g) (ci := 9) (v := Value.ref (ad 0)) (C := RX9) (T := TX9) (N := 7) hx hb hts in_X9_crackYear_X9 hown hK.1 hP_x 0 (rfl) rfl 5 (by decide) (hts _ (List.mem_of_getElem? (i := 1) rfl) : (Cond.fieldLink RX9 41 "CordSeals" "state" "LCordSeals$State;").before _ s = true) (fun _ h9 => h9) rfl dX9_crackYear_20 ?_
      refine va_get (D := g) (ci := 6) (v := Value.ref (ad 4)) (C := RX6) (T := TX6) (N := 5) hx hb hts in_X9_crackYear_X6 hown hK.1 hP_s 0 (rfl) rfl 1 (by decide) (hts _ (List.mem_of_getElem? (i := 2) rfl) : (Cond.fieldLink RX9 102 "CordSeals$State" "dies" "LCordSeals$Dies;").before _ s = true) (fun _ h9 => h9) rfl dX9_crackYear_23 ?_
      refine va_get (D := g) (ci := 0) (v := Value.ref (ad 8)) (C := RX0) (T := TX0) (N := 6) hx hb hts in_X9_crackYear_X0 hown hK.1 hP_s 4 (rfl) rfl 4 (by decide) (hts _ (List.mem_of_getElem? (i := 3) rfl) : (Cond.fieldLink RX9 168 "CordSeals$Dies" "cracks" "[I").before _ s = true) (fun _ h9 => h9) rfl dX9_crackYear_26 ?_
      refine lv_iload_n hx hb dX9_crackYear_29 rfl (lv_at hl 1 rfl) ?_
      refine zi_ald hx hb hK hP_s 8 (f := (R 8)) (rfl) ((d1).toNat) (by omega) (by omega) (by decide) dX9_crackYear_30 ?_
      have hb_3 := hB 8 ((d1).toNat)
      refine zi_icmp_ge (tgt := 38) hx hb ⟨by omega, by omega⟩ ⟨by omega, by omega⟩ dX9_crackYear_31 (by decide) (fun c_4 => ?_) (fun c_4 => ?_)
      · have _ := c_4
        refine lv_iconst (v := iI 0) hx hb dX9_crackYear_38 (by decide) ?_
        refine xr_S (As := [Value.int (iI 0)]) (rest := []) ⟨hx, hb, hml, hown, hts⟩ (x_X9_mustExist l hst g τ) gX9_crackYear_X9_mustExist cd_X9_mustExist rfl ⟨rfl, rfl⟩ ⟨Nat.le_of_ble_eq_true rfl, Nat.le_of_ble_eq_true rfl⟩ hK hZT hZU hP hD hS [] rfl rfl rfl hl rfl (Nat.le_of_ble_eq_true rfl) dX9_crackYear_39 ⟨Nat.le_of_ble_eq_true rfl, Nat.le_of_ble_eq_true rfl⟩ (fun w1 h => by rw [h]) (fun w1 H locs q9 ce9 hZ hP hD hS a1 a2 a3 => ?_)
        subst hZ
        have hP : va_P g vwCl ([xoC x (ta 0) (aj 0) (me 0) sl sv (ad 0) (bd 0)] ++ stW ad R τ) H := hP
        exact u_out ht hlocks a1 a2 a3 hP hS ⟨Nat.le_of_ble_eq_true rfl, Nat.le_of_ble_eq_true rfl⟩ (⟨⟨by rw [pCrack, if_pos (by omega)], rfl⟩, rfl⟩)
      · have _ := c_4
        refine lv_iconst (v := iI 1) hx hb dX9_crackYear_34 (by decide) ?_
        refine lv_goto (tgt := 39) hx hb dX9_crackYear_35 (by decide) ?_
        refine ro_S (As := [Value.int (iI 1)]) (rest := []) (v := none) ⟨hx, hb, hml, hown, hts⟩ (c_X9_mustExist l g τ) gX9_crackYear_X9_mustExist cd_X9_mustExist rfl ⟨rfl, rfl⟩ ⟨Nat.le_of_ble_eq_true rfl, Nat.le_of_ble_eq_true rfl⟩ hK (fun _ _ h => nomatch h) rfl hl rfl (Nat.le_of_ble_eq_true rfl) dX9_crackYear_39 ⟨Nat.le_of_ble_eq_true rfl, Nat.le_of_ble_eq_true rfl⟩ ?_
        refine tl_none ?_
        refine lv_aload_n hx hb dX9_crackYear_42 rfl (lv_at hl 0 rfl) ?_
        refine va_get (D := g) (ci := 9) (v := Value.ref (ad 0)) (C := RX9) (T := TX9) (N := 7) hx hb hts in_X9_crackYear_X9 hown hK.1 hP_x 0 (rfl) rfl 5 (by decide) (hts _ (List.mem_of_getElem? (i := 1) rfl) : (Cond.fieldLink RX9 41 "CordSeals" "state" "LCordSeals$State;").before _ s = true) (fun _ h9 => h9) rfl dX9_crackYear_43 ?_
        refine va_get (D := g) (ci := 6) (v := Value.ref (ad 4)) (C := RX6) (T := TX6) (N := 5) hx hb hts in_X9_crackYear_X6 hown hK.1 hP_s 0 (rfl) rfl 1 (by decide) (hts _ (List.mem_of_getElem? (i := 2) rfl) : (Cond.fieldLink RX9 102 "CordSeals$State" "dies" "LCordSeals$Dies;").before _ s = true) (fun _ h9 => h9) rfl dX9_crackYear_46 ?_
        refine lv_iload_n hx hb dX9_crackYear_49 rfl (lv_at hl 1 rfl) ?_
        refine cv_i (y := iI ((d1.toNat : Nat) : Int)) (congrArg iI (by omega)) ?_
        refine lv_iload_n hx hb dX9_crackYear_50 rfl (lv_at hl 2 rfl) ?_
        refine cv_i (y := iI ((k1.toNat : Nat) : Int)) (congrArg iI (by omega)) ?_
        refine ro_V (As := [Value.int (iI ((d1.toNat : Nat) : Int)), Value.int (iI ((k1.toNat : Nat) : Int))]) (rest := []) (v := some (Value.int (iI (R 9 (d1.toNat * 4 + k1.toNat))))) ⟨hx, hb, hml, hown, hts⟩ (c_X0_yearOfCrack l g τ ad R hB d1.toNat k1.toNat (by omega) (by omega)) gX9_crackYear_X0_yearOfCrack cd_X0_yearOfCrack rfl rfl ⟨rfl, rfl⟩ ⟨Nat.le_of_ble_eq_true rfl, Nat.le_of_ble_eq_true rfl⟩ hK (hP_s.sub [4, 5, 6, 7, 8, 9] rfl) 0 rfl rfl rfl rfl hl rfl (Nat.le_of_ble_eq_true rfl) dX9_crackYear_51 ⟨Nat.le_of_ble_eq_true rfl, Nat.le_of_ble_eq_true rfl⟩ ?_
        refine tl_some ?_
        have hb_5 := hB 9 (d1.toNat * 4 + k1.toNat)
        exact u_iret hx hb hr hlocks hP hS ⟨Nat.le_of_ble_eq_true rfl, Nat.le_of_ble_eq_true rfl⟩ (⟨by rw [pCrack, if_neg (by omega)], (congrArg (fun z => some (Value.int (iI z))) (show (pCrack R d1 k1).2 = R 9 (d1.toNat * 4 + k1.toNat) from by rw [pCrack, if_neg (by omega)])).symm, rfl⟩) dX9_crackYear_54

theorem cd_X9_ofSeal : cd yX9_ofSeal 2 := by decide +kernel
theorem in_X9_ofSeal_X4 : ∀ w ∈ wsX40, w ∈ wsX9_ofSeal := by decide +kernel
theorem in_X9_ofSeal_X6 : ∀ w ∈ wsX60, w ∈ wsX9_ofSeal := by decide +kernel
theorem in_X9_ofSeal_X9 : ∀ w ∈ wsX90, w ∈ wsX9_ofSeal := by decide +kernel
set_option maxHeartbeats 1000000 in
set_option maxRecDepth 100000 in
theorem c_X9_ofSeal (l : Launch) (hst : l.stackTraces = false) (g : va_G) (τ : Nat → ClassId) (x sl sv : Nat) (ta aj me ad bd : Nat → Nat) (R : Nat → Nat → Int) (hI : SI R) (z1 : Int) (rz1 : -2147483648 ≤ z1 ∧ z1 < 2147483648) (w1 : Int) (rw1 : -2147483648 ≤ w1 ∧ w1 < 2147483648)  : uMet l yX9_ofSeal wsX9_ofSeal { frames := 7, cells := 1, slots := 6, locals := 110 } g τ [Value.ref x, Value.int (iI z1), Value.int (iI w1)] ([xoC x (ta 0) (aj 0) (me 0) sl sv (ad 0) (bd 0)] ++ stW ad R τ) (fun v w => (pSeal R z1 w1).1 = 0 ∧ v = some (Value.int (iI (pSeal R z1 w1).2)) ∧ w = [xoC x (ta 0) (aj 0) (me 0) sl sv (ad 0) (bd 0)] ++ stW ad R τ) (fun E w => (((pSeal R z1 w1).1 = 1 ∧ E = "java/lang/IndexOutOfBoundsException") ∨ ((pSeal R z1 w1).1 = 2 ∧ E = "java/lang/IllegalArgumentException")) ∧ w = [xoC x (ta 0) (aj 0) (me 0) sl sv (ad 0) (bd 0)] ++ stW ad R τ) := by
  have hB := hI.hB
  have hr0 := hI.r
  have hd0 := hI.d
  have hs0 := hI.s
  have hN := hI.hN
  refine uMet_of (cc := cX9_ofSeal) (maxL := 3) (ret := (some .int)) (lv := [(0, Value.ref x), (1, Value.int (iI z1)), (2, Value.int (iI w1))]) (by decide) rfl (Nat.le_of_ble_eq_true rfl) rfl ?_
  intro p e s m below meth c hx hb hr hml hts hown hlocks ht A H hP hD hS hK hZT hZU ls hl
  have hP_x := va_left hP
  have hP_s := va_right hP
  refine lv_aload_n hx hb dX9_ofSeal_0 rfl (lv_at hl 0 rfl) ?_
  refine va_get (D := g) (ci := 9) (v := Value.ref (ad 0)) (C := RX9) (T := TX9) (N := 7) hx hb hts in_X9_ofSeal_X9 hown hK.1 hP_x 0 (rfl) rfl 5 (by decide) (hts _ (List.mem_of_getElem? (i := 1) rfl) : (Cond.fieldLink RX9 41 "CordSeals" "state" "LCordSeals$State;").before _ s = true) (fun _ h9 => h9) rfl dX9_ofSeal_1 ?_
  refine va_get (D := g) (ci := 6) (v := Value.ref (ad 10)) (C := RX6) (T := TX6) (N := 5) hx hb hts in_X9_ofSeal_X6 hown hK.1 hP_s 0 (rfl) rfl 2 (by decide) (hts _ (List.mem_of_getElem? (i := 2) rfl) : (Cond.fieldLink RX9 109 "CordSeals$State" "seals" "LCordSeals$Seals;").before _ s = true) (fun _ h9 => h9) rfl dX9_ofSeal_4 ?_
  refine lv_iload_n hx hb dX9_ofSeal_7 rfl (lv_at hl 1 rfl) ?_
  refine ro_V (As := [Value.int (iI z1)]) (rest := []) (v := some (Value.int (iI (zB (dHas (R 10 0) z1))))) ⟨hx, hb, hml, hown, hts⟩ (c_X4_has l g τ ad R hB z1 ⟨by omega, by omega⟩) gX9_ofSeal_X4_has cd_X4_has rfl rfl ⟨rfl, rfl⟩ ⟨Nat.le_of_ble_eq_true rfl, Nat.le_of_ble_eq_true rfl⟩ hK (hP_s.sub [10, 11, 12, 13, 14, 15, 16] rfl) 0 rfl rfl rfl rfl hl rfl (Nat.le_of_ble_eq_true rfl) dX9_ofSeal_8 ⟨Nat.le_of_ble_eq_true rfl, Nat.le_of_ble_eq_true rfl⟩ ?_
  refine tl_some ?_
  refine u_must (rest := []) ⟨hx, hb, hml, hown, hts⟩ (c_X9_mustExist l g τ) (x_X9_mustExist l hst g τ) gX9_ofSeal_X9_mustExist cd_X9_mustExist rfl ⟨rfl, rfl⟩ ⟨rfl, rfl⟩ ⟨Nat.le_of_ble_eq_true rfl, Nat.le_of_ble_eq_true rfl⟩ ⟨Nat.le_of_ble_eq_true rfl, Nat.le_of_ble_eq_true rfl⟩ hK hZT hZU hP hD hS hl (dHas (R 10 0) z1) rfl (Nat.le_of_ble_eq_true rfl) dX9_ofSeal_11 ⟨Nat.le_of_ble_eq_true rfl, Nat.le_of_ble_eq_true rfl⟩ ⟨Nat.le_of_ble_eq_true rfl, Nat.le_of_ble_eq_true rfl⟩ (fun c_1 H locs q9 ce9 hP hD hS a1 a2 a3 => ?_) (fun c_1 => ?_)
  · have _ := c_1
    have hh : z1 < 0 ∨ R 10 0 ≤ z1 := by have := c_1; simp [dHas] at this; omega
    exact u_out ht hlocks a1 a2 a3 hP hS ⟨Nat.le_of_ble_eq_true rfl, Nat.le_of_ble_eq_true rfl⟩ (⟨Or.inl ⟨by rw [pSeal, if_pos (by omega)], rfl⟩, rfl⟩)
  · have _ := c_1
    have hh : 0 ≤ z1 ∧ z1 < R 10 0 := by simpa [dHas] using c_1
    refine lv_iload_n hx hb dX9_ofSeal_14 rfl (lv_at hl 2 rfl) ?_
    refine zi_if_lt (tgt := 28) hx hb ⟨by omega, by omega⟩ dX9_ofSeal_15 (by decide) (fun c_2 => ?_) (fun c_2 => ?_)
    · have _ := c_2
      refine lv_iconst (v := iI 0) hx hb dX9_ofSeal_28 (by decide) ?_
      refine xr_S (As := [Value.int (iI 0)]) (rest := []) ⟨hx, hb, hml, hown, hts⟩ (x_X9_mustFit l hst g τ) gX9_ofSeal_X9_mustFit cd_X9_mustFit rfl ⟨rfl, rfl⟩ ⟨Nat.le_of_ble_eq_true rfl, Nat.le_of_ble_eq_true rfl⟩ hK hZT hZU hP hD hS [] rfl rfl rfl hl rfl (Nat.le_of_ble_eq_true rfl) dX9_ofSeal_29 ⟨Nat.le_of_ble_eq_true rfl, Nat.le_of_ble_eq_true rfl⟩ (fun w1 h => by rw [h]) (fun w1 H locs q9 ce9 hZ hP hD hS a1 a2 a3 => ?_)
      subst hZ
      have hP : va_P g vwCl ([xoC x (ta 0) (aj 0) (me 0) sl sv (ad 0) (bd 0)] ++ stW ad R τ) H := hP
      exact u_out ht hlocks a1 a2 a3 hP hS ⟨Nat.le_of_ble_eq_true rfl, Nat.le_of_ble_eq_true rfl⟩ (⟨Or.inr (⟨by rw [pSeal, if_neg (by omega), if_pos (by omega)], rfl⟩), rfl⟩)
    · have _ := c_2
      refine lv_iload_n hx hb dX9_ofSeal_18 rfl (lv_at hl 2 rfl) ?_
      refine lv_bipush (v := iI 7) hx hb dX9_ofSeal_19 (by decide) ?_
      refine zi_icmp_gt (tgt := 28) hx hb ⟨by omega, by omega⟩ ⟨by decide, by decide⟩ dX9_ofSeal_21 (by decide) (fun c_3 => ?_) (fun c_3 => ?_)
      · have _ := c_3
        refine lv_iconst (v := iI 0) hx hb dX9_ofSeal_28 (by decide) ?_
        refine xr_S (As := [Value.int (iI 0)]) (rest := []) ⟨hx, hb, hml, hown, hts⟩ (x_X9_mustFit l hst g τ) gX9_ofSeal_X9_mustFit cd_X9_mustFit rfl ⟨rfl, rfl⟩ ⟨Nat.le_of_ble_eq_true rfl, Nat.le_of_ble_eq_true rfl⟩ hK hZT hZU hP hD hS [] rfl rfl rfl hl rfl (Nat.le_of_ble_eq_true rfl) dX9_ofSeal_29 ⟨Nat.le_of_ble_eq_true rfl, Nat.le_of_ble_eq_true rfl⟩ (fun w1 h => by rw [h]) (fun w1 H locs q9 ce9 hZ hP hD hS a1 a2 a3 => ?_)
        subst hZ
        have hP : va_P g vwCl ([xoC x (ta 0) (aj 0) (me 0) sl sv (ad 0) (bd 0)] ++ stW ad R τ) H := hP
        exact u_out ht hlocks a1 a2 a3 hP hS ⟨Nat.le_of_ble_eq_true rfl, Nat.le_of_ble_eq_true rfl⟩ (⟨Or.inr (⟨by rw [pSeal, if_neg (by omega), if_pos (by omega)], rfl⟩), rfl⟩)
      · have _ := c_3
        refine lv_iconst (v := iI 1) hx hb dX9_ofSeal_24 (by decide) ?_
        refine lv_goto (tgt := 29) hx hb dX9_ofSeal_25 (by decide) ?_
        refine ro_S (As := [Value.int (iI 1)]) (rest := []) (v := none) ⟨hx, hb, hml, hown, hts⟩ (c_X9_mustFit l g τ) gX9_ofSeal_X9_mustFit cd_X9_mustFit rfl ⟨rfl, rfl⟩ ⟨Nat.le_of_ble_eq_true rfl, Nat.le_of_ble_eq_true rfl⟩ hK (fun _ _ h => nomatch h) rfl hl rfl (Nat.le_of_ble_eq_true rfl) dX9_ofSeal_29 ⟨Nat.le_of_ble_eq_true rfl, Nat.le_of_ble_eq_true rfl⟩ ?_
        refine tl_none ?_
        refine lv_iload_n hx hb dX9_ofSeal_32 rfl (lv_at hl 2 rfl) ?_
        by_cases k_4_0 : w1 = 0
        · refine zi_tabl (tgt := 76) (x := w1) k_4_0 hx hb ⟨by decide, by decide⟩ (v := 0) dX9_ofSeal_33 (by decide) (by decide) (off := 43) (by decide +kernel) (by decide) ?_
          refine lv_aload_n hx hb dX9_ofSeal_76 rfl (lv_at hl 0 rfl) ?_
          refine va_get (D := g) (ci := 9) (v := Value.ref (ad 0)) (C := RX9) (T := TX9) (N := 7) hx hb hts in_X9_ofSeal_X9 hown hK.1 hP_x 0 (rfl) rfl 5 (by decide) (hts _ (List.mem_of_getElem? (i := 1) rfl) : (Cond.fieldLink RX9 41 "CordSeals" "state" "LCordSeals$State;").before _ s = true) (fun _ h9 => h9) rfl dX9_ofSeal_77 ?_
          refine va_get (D := g) (ci := 6) (v := Value.ref (ad 10)) (C := RX6) (T := TX6) (N := 5) hx hb hts in_X9_ofSeal_X6 hown hK.1 hP_s 0 (rfl) rfl 2 (by decide) (hts _ (List.mem_of_getElem? (i := 2) rfl) : (Cond.fieldLink RX9 109 "CordSeals$State" "seals" "LCordSeals$Seals;").before _ s = true) (fun _ h9 => h9) rfl dX9_ofSeal_80 ?_
          refine va_get (D := g) (ci := 4) (v := Value.ref (ad 11)) (C := RX4) (T := TX4) (N := 7) hx hb hts in_X9_ofSeal_X4 hown hK.1 hP_s 10 (rfl) rfl 1 (by decide) (hts _ (List.mem_of_getElem? (i := 3) rfl) : (Cond.fieldLink RX9 183 "CordSeals$Seals" "die" "[I").before _ s = true) (fun _ h9 => h9) rfl dX9_ofSeal_83 ?_
          refine lv_iload_n hx hb dX9_ofSeal_86 rfl (lv_at hl 1 rfl) ?_
          refine zi_ald hx hb hK hP_s 11 (f := (R 11)) (rfl) ((z1).toNat) (by omega) (by omega) (by decide) dX9_ofSeal_87 ?_
          have hb_5 := hB 11 ((z1).toNat)
          exact u_iret hx hb hr hlocks hP hS ⟨Nat.le_of_ble_eq_true rfl, Nat.le_of_ble_eq_true rfl⟩ (⟨by rw [pSeal, if_neg (by omega), if_neg (by omega)], (congrArg (fun z => some (Value.int (iI z))) (show (pSeal R z1 w1).2 = R 11 ((z1).toNat) from by rw [pSeal, if_neg (by omega), if_neg (by omega), if_pos (by omega)])).symm, rfl⟩) dX9_ofSeal_88
        by_cases k_4_1 : w1 = 1
        · refine zi_tabl (tgt := 89) (x := w1) k_4_1 hx hb ⟨by decide, by decide⟩ (v := 1) dX9_ofSeal_33 (by decide) (by decide) (off := 56) (by decide +kernel) (by decide) ?_
          refine lv_aload_n hx hb dX9_ofSeal_89 rfl (lv_at hl 0 rfl) ?_
          refine va_get (D := g) (ci := 9) (v := Value.ref (ad 0)) (C := RX9) (T := TX9) (N := 7) hx hb hts in_X9_ofSeal_X9 hown hK.1 hP_x 0 (rfl) rfl 5 (by decide) (hts _ (List.mem_of_getElem? (i := 1) rfl) : (Cond.fieldLink RX9 41 "CordSeals" "state" "LCordSeals$State;").before _ s = true) (fun _ h9 => h9) rfl dX9_ofSeal_90 ?_
          refine va_get (D := g) (ci := 6) (v := Value.ref (ad 10)) (C := RX6) (T := TX6) (N := 5) hx hb hts in_X9_ofSeal_X6 hown hK.1 hP_s 0 (rfl) rfl 2 (by decide) (hts _ (List.mem_of_getElem? (i := 2) rfl) : (Cond.fieldLink RX9 109 "CordSeals$State" "seals" "LCordSeals$Seals;").before _ s = true) (fun _ h9 => h9) rfl dX9_ofSeal_93 ?_
          refine va_get (D := g) (ci := 4) (v := Value.ref (ad 12)) (C := RX4) (T := TX4) (N := 7) hx hb hts in_X9_ofSeal_X4 hown hK.1 hP_s 10 (rfl) rfl 2 (by decide) (hts _ (List.mem_of_getElem? (i := 4) rfl) : (Cond.fieldLink RX9 186 "CordSeals$Seals" "material" "[I").before _ s = true) (fun _ h9 => h9) rfl dX9_ofSeal_96 ?_
          refine lv_iload_n hx hb dX9_ofSeal_99 rfl (lv_at hl 1 rfl) ?_
          refine zi_ald hx hb hK hP_s 12 (f := (R 12)) (rfl) ((z1).toNat) (by omega) (by omega) (by decide) dX9_ofSeal_100 ?_
          have hb_6 := hB 12 ((z1).toNat)
          exact u_iret hx hb hr hlocks hP hS ⟨Nat.le_of_ble_eq_true rfl, Nat.le_of_ble_eq_true rfl⟩ (⟨by rw [pSeal, if_neg (by omega), if_neg (by omega)], (congrArg (fun z => some (Value.int (iI z))) (show (pSeal R z1 w1).2 = R 12 ((z1).toNat) from by rw [pSeal, if_neg (by omega), if_neg (by omega), if_neg (by omega), if_pos (by omega)])).symm, rfl⟩) dX9_ofSeal_101
        by_cases k_4_2 : w1 = 2
        · refine zi_tabl (tgt := 102) (x := w1) k_4_2 hx hb ⟨by decide, by decide⟩ (v := 2) dX9_ofSeal_33 (by decide) (by decide) (off := 69) (by decide +kernel) (by decide) ?_
          refine lv_aload_n hx hb dX9_ofSeal_102 rfl (lv_at hl 0 rfl) ?_
          refine va_get (D := g) (ci := 9) (v := Value.ref (ad 0)) (C := RX9) (T := TX9) (N := 7) hx hb hts in_X9_ofSeal_X9 hown hK.1 hP_x 0 (rfl) rfl 5 (by decide) (hts _ (List.mem_of_getElem? (i := 1) rfl) : (Cond.fieldLink RX9 41 "CordSeals" "state" "LCordSeals$State;").before _ s = true) (fun _ h9 => h9) rfl dX9_ofSeal_103 ?_
          refine va_get (D := g) (ci := 6) (v := Value.ref (ad 10)) (C := RX6) (T := TX6) (N := 5) hx hb hts in_X9_ofSeal_X6 hown hK.1 hP_s 0 (rfl) rfl 2 (by decide) (hts _ (List.mem_of_getElem? (i := 2) rfl) : (Cond.fieldLink RX9 109 "CordSeals$State" "seals" "LCordSeals$Seals;").before _ s = true) (fun _ h9 => h9) rfl dX9_ofSeal_106 ?_
          refine va_get (D := g) (ci := 4) (v := Value.ref (ad 13)) (C := RX4) (T := TX4) (N := 7) hx hb hts in_X9_ofSeal_X4 hown hK.1 hP_s 10 (rfl) rfl 3 (by decide) (hts _ (List.mem_of_getElem? (i := 5) rfl) : (Cond.fieldLink RX9 189 "CordSeals$Seals" "colour" "[I").before _ s = true) (fun _ h9 => h9) rfl dX9_ofSeal_109 ?_
          refine lv_iload_n hx hb dX9_ofSeal_112 rfl (lv_at hl 1 rfl) ?_
          refine zi_ald hx hb hK hP_s 13 (f := (R 13)) (rfl) ((z1).toNat) (by omega) (by omega) (by decide) dX9_ofSeal_113 ?_
          have hb_7 := hB 13 ((z1).toNat)
          exact u_iret hx hb hr hlocks hP hS ⟨Nat.le_of_ble_eq_true rfl, Nat.le_of_ble_eq_true rfl⟩ (⟨by rw [pSeal, if_neg (by omega), if_neg (by omega)], (congrArg (fun z => some (Value.int (iI z))) (show (pSeal R z1 w1).2 = R 13 ((z1).toNat) from by rw [pSeal, if_neg (by omega), if_neg (by omega), if_neg (by omega), if_neg (by omega), if_pos (by omega)])).symm, rfl⟩) dX9_ofSeal_114
        by_cases k_4_3 : w1 = 3
        · refine zi_tabl (tgt := 115) (x := w1) k_4_3 hx hb ⟨by decide, by decide⟩ (v := 3) dX9_ofSeal_33 (by decide) (by decide) (off := 82) (by decide +kernel) (by decide) ?_
          refine lv_aload_n hx hb dX9_ofSeal_115 rfl (lv_at hl 0 rfl) ?_
          refine va_get (D := g) (ci := 9) (v := Value.ref (ad 0)) (C := RX9) (T := TX9) (N := 7) hx hb hts in_X9_ofSeal_X9 hown hK.1 hP_x 0 (rfl) rfl 5 (by decide) (hts _ (List.mem_of_getElem? (i := 1) rfl) : (Cond.fieldLink RX9 41 "CordSeals" "state" "LCordSeals$State;").before _ s = true) (fun _ h9 => h9) rfl dX9_ofSeal_116 ?_
          refine va_get (D := g) (ci := 6) (v := Value.ref (ad 10)) (C := RX6) (T := TX6) (N := 5) hx hb hts in_X9_ofSeal_X6 hown hK.1 hP_s 0 (rfl) rfl 2 (by decide) (hts _ (List.mem_of_getElem? (i := 2) rfl) : (Cond.fieldLink RX9 109 "CordSeals$State" "seals" "LCordSeals$Seals;").before _ s = true) (fun _ h9 => h9) rfl dX9_ofSeal_119 ?_
          refine va_get (D := g) (ci := 4) (v := Value.ref (ad 14)) (C := RX4) (T := TX4) (N := 7) hx hb hts in_X9_ofSeal_X4 hown hK.1 hP_s 10 (rfl) rfl 4 (by decide) (hts _ (List.mem_of_getElem? (i := 6) rfl) : (Cond.fieldLink RX9 192 "CordSeals$Seals" "bubbles" "[I").before _ s = true) (fun _ h9 => h9) rfl dX9_ofSeal_122 ?_
          refine lv_iload_n hx hb dX9_ofSeal_125 rfl (lv_at hl 1 rfl) ?_
          refine zi_ald hx hb hK hP_s 14 (f := (R 14)) (rfl) ((z1).toNat) (by omega) (by omega) (by decide) dX9_ofSeal_126 ?_
          have hb_8 := hB 14 ((z1).toNat)
          exact u_iret hx hb hr hlocks hP hS ⟨Nat.le_of_ble_eq_true rfl, Nat.le_of_ble_eq_true rfl⟩ (⟨by rw [pSeal, if_neg (by omega), if_neg (by omega)], (congrArg (fun z => some (Value.int (iI z))) (show (pSeal R z1 w1).2 = R 14 ((z1).toNat) from by rw [pSeal, if_neg (by omega), if_neg (by omega), if_neg (by omega), if_neg (by omega), if_neg (by omega), if_pos (by omega)])).symm, rfl⟩) dX9_ofSeal_127
        by_cases k_4_4 : w1 = 4
        · refine zi_tabl (tgt := 128) (x := w1) k_4_4 hx hb ⟨by decide, by decide⟩ (v := 4) dX9_ofSeal_33 (by decide) (by decide) (off := 95) (by decide +kernel) (by decide) ?_
          refine lv_aload_n hx hb dX9_ofSeal_128 rfl (lv_at hl 0 rfl) ?_
          refine va_get (D := g) (ci := 9) (v := Value.ref (ad 0)) (C := RX9) (T := TX9) (N := 7) hx hb hts in_X9_ofSeal_X9 hown hK.1 hP_x 0 (rfl) rfl 5 (by decide) (hts _ (List.mem_of_getElem? (i := 1) rfl) : (Cond.fieldLink RX9 41 "CordSeals" "state" "LCordSeals$State;").before _ s = true) (fun _ h9 => h9) rfl dX9_ofSeal_129 ?_
          refine va_get (D := g) (ci := 6) (v := Value.ref (ad 10)) (C := RX6) (T := TX6) (N := 5) hx hb hts in_X9_ofSeal_X6 hown hK.1 hP_s 0 (rfl) rfl 2 (by decide) (hts _ (List.mem_of_getElem? (i := 2) rfl) : (Cond.fieldLink RX9 109 "CordSeals$State" "seals" "LCordSeals$Seals;").before _ s = true) (fun _ h9 => h9) rfl dX9_ofSeal_132 ?_
          refine va_get (D := g) (ci := 4) (v := Value.ref (ad 15)) (C := RX4) (T := TX4) (N := 7) hx hb hts in_X9_ofSeal_X4 hown hK.1 hP_s 10 (rfl) rfl 5 (by decide) (hts _ (List.mem_of_getElem? (i := 7) rfl) : (Cond.fieldLink RX9 195 "CordSeals$Seals" "shown" "[I").before _ s = true) (fun _ h9 => h9) rfl dX9_ofSeal_135 ?_
          refine lv_iload_n hx hb dX9_ofSeal_138 rfl (lv_at hl 1 rfl) ?_
          refine zi_ald hx hb hK hP_s 15 (f := (R 15)) (rfl) ((z1).toNat) (by omega) (by omega) (by decide) dX9_ofSeal_139 ?_
          have hb_9 := hB 15 ((z1).toNat)
          exact u_iret hx hb hr hlocks hP hS ⟨Nat.le_of_ble_eq_true rfl, Nat.le_of_ble_eq_true rfl⟩ (⟨by rw [pSeal, if_neg (by omega), if_neg (by omega)], (congrArg (fun z => some (Value.int (iI z))) (show (pSeal R z1 w1).2 = R 15 ((z1).toNat) from by rw [pSeal, if_neg (by omega), if_neg (by omega), if_neg (by omega), if_neg (by omega), if_neg (by omega), if_neg (by omega), if_pos (by omega)])).symm, rfl⟩) dX9_ofSeal_140
        by_cases k_4_5 : w1 = 5
        · refine zi_tabl (tgt := 141) (x := w1) k_4_5 hx hb ⟨by decide, by decide⟩ (v := 5) dX9_ofSeal_33 (by decide) (by decide) (off := 108) (by decide +kernel) (by decide) ?_
          refine lv_aload_n hx hb dX9_ofSeal_141 rfl (lv_at hl 0 rfl) ?_
          refine va_get (D := g) (ci := 9) (v := Value.ref (ad 0)) (C := RX9) (T := TX9) (N := 7) hx hb hts in_X9_ofSeal_X9 hown hK.1 hP_x 0 (rfl) rfl 5 (by decide) (hts _ (List.mem_of_getElem? (i := 1) rfl) : (Cond.fieldLink RX9 41 "CordSeals" "state" "LCordSeals$State;").before _ s = true) (fun _ h9 => h9) rfl dX9_ofSeal_142 ?_
          refine va_get (D := g) (ci := 6) (v := Value.ref (ad 10)) (C := RX6) (T := TX6) (N := 5) hx hb hts in_X9_ofSeal_X6 hown hK.1 hP_s 0 (rfl) rfl 2 (by decide) (hts _ (List.mem_of_getElem? (i := 2) rfl) : (Cond.fieldLink RX9 109 "CordSeals$State" "seals" "LCordSeals$Seals;").before _ s = true) (fun _ h9 => h9) rfl dX9_ofSeal_145 ?_
          refine va_get (D := g) (ci := 4) (v := Value.ref (ad 16)) (C := RX4) (T := TX4) (N := 7) hx hb hts in_X9_ofSeal_X4 hown hK.1 hP_s 10 (rfl) rfl 6 (by decide) (hts _ (List.mem_of_getElem? (i := 8) rfl) : (Cond.fieldLink RX9 198 "CordSeals$Seals" "hangsOn" "[I").before _ s = true) (fun _ h9 => h9) rfl dX9_ofSeal_148 ?_
          refine lv_iload_n hx hb dX9_ofSeal_151 rfl (lv_at hl 1 rfl) ?_
          refine zi_ald hx hb hK hP_s 16 (f := (R 16)) (rfl) ((z1).toNat) (by omega) (by omega) (by decide) dX9_ofSeal_152 ?_
          have hb_10 := hB 16 ((z1).toNat)
          exact u_iret hx hb hr hlocks hP hS ⟨Nat.le_of_ble_eq_true rfl, Nat.le_of_ble_eq_true rfl⟩ (⟨by rw [pSeal, if_neg (by omega), if_neg (by omega)], (congrArg (fun z => some (Value.int (iI z))) (show (pSeal R z1 w1).2 = R 16 ((z1).toNat) from by rw [pSeal, if_neg (by omega), if_neg (by omega), if_neg (by omega), if_neg (by omega), if_neg (by omega), if_neg (by omega), if_neg (by omega), if_pos (by omega)])).symm, rfl⟩) dX9_ofSeal_153
        by_cases k_4_6 : w1 = 6
        · refine zi_tabl (tgt := 154) (x := w1) k_4_6 hx hb ⟨by decide, by decide⟩ (v := 6) dX9_ofSeal_33 (by decide) (by decide) (off := 121) (by decide +kernel) (by decide) ?_
          refine lv_aload_n hx hb dX9_ofSeal_154 rfl (lv_at hl 0 rfl) ?_
          refine va_get (D := g) (ci := 9) (v := Value.ref (ad 0)) (C := RX9) (T := TX9) (N := 7) hx hb hts in_X9_ofSeal_X9 hown hK.1 hP_x 0 (rfl) rfl 5 (by decide) (hts _ (List.mem_of_getElem? (i := 1) rfl) : (Cond.fieldLink RX9 41 "CordSeals" "state" "LCordSeals$State;").before _ s = true) (fun _ h9 => h9) rfl dX9_ofSeal_155 ?_
          refine va_get (D := g) (ci := 6) (v := Value.ref (ad 17)) (C := RX6) (T := TX6) (N := 5) hx hb hts in_X9_ofSeal_X6 hown hK.1 hP_s 0 (rfl) rfl 3 (by decide) (hts _ (List.mem_of_getElem? (i := 9) rfl) : (Cond.fieldLink RX9 129 "CordSeals$State" "shelves" "LCordSeals$Shelves;").before _ s = true) (fun _ h9 => h9) rfl dX9_ofSeal_158 ?_
          refine lv_iload_n hx hb dX9_ofSeal_161 rfl (lv_at hl 1 rfl) ?_
          refine ro_V (As := [Value.int (iI z1)]) (rest := []) (v := some (Value.int (iI (plI 6 (sOf R z1))))) ⟨hx, hb, hml, hown, hts⟩ (c_X5_shelfOf l g τ ad R hB hN z1 ⟨by omega, by omega⟩) gX9_ofSeal_X5_shelfOf cd_X5_shelfOf rfl rfl ⟨rfl, rfl⟩ ⟨Nat.le_of_ble_eq_true rfl, Nat.le_of_ble_eq_true rfl⟩ hK (hP_s.sub [17, 18, 19] rfl) 0 rfl rfl rfl rfl hl rfl (Nat.le_of_ble_eq_true rfl) dX9_ofSeal_162 ⟨Nat.le_of_ble_eq_true rfl, Nat.le_of_ble_eq_true rfl⟩ ?_
          refine tl_some ?_
          exact u_iret hx hb hr hlocks hP hS ⟨Nat.le_of_ble_eq_true rfl, Nat.le_of_ble_eq_true rfl⟩ (⟨by rw [pSeal, if_neg (by omega), if_neg (by omega)], (congrArg (fun z => some (Value.int (iI z))) (show (pSeal R z1 w1).2 = plI 6 (sOf R z1) from by rw [pSeal, if_neg (by omega), if_neg (by omega), if_neg (by omega), if_neg (by omega), if_neg (by omega), if_neg (by omega), if_neg (by omega), if_neg (by omega), if_pos (by omega)])).symm, rfl⟩) dX9_ofSeal_165
        refine zi_tablD (x := w1) (tgt := 166) ⟨by omega, by omega⟩ hx hb dX9_ofSeal_33 (by omega) (by decide) ?_
        refine lv_aload_n hx hb dX9_ofSeal_166 rfl (lv_at hl 0 rfl) ?_
        refine va_get (D := g) (ci := 9) (v := Value.ref (ad 0)) (C := RX9) (T := TX9) (N := 7) hx hb hts in_X9_ofSeal_X9 hown hK.1 hP_x 0 (rfl) rfl 5 (by decide) (hts _ (List.mem_of_getElem? (i := 1) rfl) : (Cond.fieldLink RX9 41 "CordSeals" "state" "LCordSeals$State;").before _ s = true) (fun _ h9 => h9) rfl dX9_ofSeal_167 ?_
        refine va_get (D := g) (ci := 6) (v := Value.ref (ad 17)) (C := RX6) (T := TX6) (N := 5) hx hb hts in_X9_ofSeal_X6 hown hK.1 hP_s 0 (rfl) rfl 3 (by decide) (hts _ (List.mem_of_getElem? (i := 9) rfl) : (Cond.fieldLink RX9 129 "CordSeals$State" "shelves" "LCordSeals$Shelves;").before _ s = true) (fun _ h9 => h9) rfl dX9_ofSeal_170 ?_
        refine lv_iload_n hx hb dX9_ofSeal_173 rfl (lv_at hl 1 rfl) ?_
        refine ro_V (As := [Value.int (iI z1)]) (rest := []) (v := some (Value.int (iI (if sOf R z1 < 6 then plI (shN R (sOf R z1)) (pOn R (sOf R z1) z1) else -1)))) ⟨hx, hb, hml, hown, hts⟩ (c_X5_placeOf l g τ ad R hB hN z1 ⟨by omega, by omega⟩) gX9_ofSeal_X5_placeOf cd_X5_placeOf rfl rfl ⟨rfl, rfl⟩ ⟨Nat.le_of_ble_eq_true rfl, Nat.le_of_ble_eq_true rfl⟩ hK (hP_s.sub [17, 18, 19] rfl) 0 rfl rfl rfl rfl hl rfl (Nat.le_of_ble_eq_true rfl) dX9_ofSeal_174 ⟨Nat.le_of_ble_eq_true rfl, Nat.le_of_ble_eq_true rfl⟩ ?_
        refine tl_some ?_
        exact u_iret hx hb hr hlocks hP hS ⟨Nat.le_of_ble_eq_true rfl, Nat.le_of_ble_eq_true rfl⟩ (⟨by rw [pSeal, if_neg (by omega), if_neg (by omega)], (congrArg (fun z => some (Value.int (iI z))) (show (pSeal R z1 w1).2 = if sOf R z1 < 6 then plI (shN R (sOf R z1)) (pOn R (sOf R z1) z1) else -1 from by rw [pSeal, if_neg (by omega), if_neg (by omega), if_neg (by omega), if_neg (by omega), if_neg (by omega), if_neg (by omega), if_neg (by omega), if_neg (by omega), if_neg (by omega)])).symm, rfl⟩) dX9_ofSeal_177

theorem cd_X9_dated : cd yX9_dated 2 := by decide +kernel
theorem in_X9_dated_X1 : ∀ w ∈ wsX10, w ∈ wsX9_dated := by decide +kernel
theorem in_X9_dated_X6 : ∀ w ∈ wsX60, w ∈ wsX9_dated := by decide +kernel
theorem in_X9_dated_X9 : ∀ w ∈ wsX90, w ∈ wsX9_dated := by decide +kernel
set_option maxHeartbeats 1000000 in
set_option maxRecDepth 100000 in
theorem c_X9_dated (l : Launch) (hst : l.stackTraces = false) (g : va_G) (τ : Nat → ClassId) (x sl sv : Nat) (ta aj me ad bd : Nat → Nat) (R : Nat → Nat → Int) (hI : SI R) (J : Nat → Nat → Int) (hjb : HB J) (hjs : JSp J) (z1 : Int) (rz1 : -2147483648 ≤ z1 ∧ z1 < 2147483648) (w1 : Int) (rw1 : -2147483648 ≤ w1 ∧ w1 < 2147483648)  : uMet l yX9_dated wsX9_dated { frames := 7, cells := 1, slots := 6, locals := 110 } g τ [Value.ref x, Value.int (iI z1), Value.int (iI w1)] ([xoC x (ta 0) (aj 0) (me 0) sl sv (ad 0) (bd 0)] ++ (stW ad R τ ++ juW aj J τ)) (fun v w => (pDated R z1 w1).1 = 0 ∧ v = some (Value.int (iI (pDated R z1 w1).2)) ∧ ∃ J2, HB J2 ∧ JSp J2 ∧ w = [xoC x (ta 0) (aj 0) (me 0) sl sv (ad 0) (bd 0)] ++ (stW ad R τ ++ juW aj J2 τ)) (fun E w => (((pDated R z1 w1).1 = 1 ∧ E = "java/lang/IndexOutOfBoundsException") ∨ ((pDated R z1 w1).1 = 2 ∧ E = "java/lang/IllegalArgumentException")) ∧ w = [xoC x (ta 0) (aj 0) (me 0) sl sv (ad 0) (bd 0)] ++ (stW ad R τ ++ juW aj J τ)) := by
  have hB := hI.hB
  have hr0 := hI.r
  have hd0 := hI.d
  have hs0 := hI.s
  have hN := hI.hN
  refine uMet_of (cc := cX9_dated) (maxL := 3) (ret := (some .int)) (lv := [(0, Value.ref x), (1, Value.int (iI z1)), (2, Value.int (iI w1))]) (by decide) rfl (Nat.le_of_ble_eq_true rfl) rfl ?_
  intro p e s m below meth c hx hb hr hml hts hown hlocks ht A H hP hD hS hK hZT hZU ls hl
  have hP_x := va_left hP
  have hP_s := va_left (va_right hP)
  have hP_j := va_right (va_right hP)
  refine lv_aload_n hx hb dX9_dated_0 rfl (lv_at hl 0 rfl) ?_
  refine va_get (D := g) (ci := 9) (v := Value.ref (ad 0)) (C := RX9) (T := TX9) (N := 7) hx hb hts in_X9_dated_X9 hown hK.1 hP_x 0 (rfl) rfl 5 (by decide) (hts _ (List.mem_of_getElem? (i := 1) rfl) : (Cond.fieldLink RX9 41 "CordSeals" "state" "LCordSeals$State;").before _ s = true) (fun _ h9 => h9) rfl dX9_dated_1 ?_
  refine va_get (D := g) (ci := 6) (v := Value.ref (ad 10)) (C := RX6) (T := TX6) (N := 5) hx hb hts in_X9_dated_X6 hown hK.1 hP_s 0 (rfl) rfl 2 (by decide) (hts _ (List.mem_of_getElem? (i := 2) rfl) : (Cond.fieldLink RX9 109 "CordSeals$State" "seals" "LCordSeals$Seals;").before _ s = true) (fun _ h9 => h9) rfl dX9_dated_4 ?_
  refine lv_iload_n hx hb dX9_dated_7 rfl (lv_at hl 1 rfl) ?_
  refine ro_V (As := [Value.int (iI z1)]) (rest := []) (v := some (Value.int (iI (zB (dHas (R 10 0) z1))))) ⟨hx, hb, hml, hown, hts⟩ (c_X4_has l g τ ad R hB z1 ⟨by omega, by omega⟩) gX9_dated_X4_has cd_X4_has rfl rfl ⟨rfl, rfl⟩ ⟨Nat.le_of_ble_eq_true rfl, Nat.le_of_ble_eq_true rfl⟩ hK (hP_s.sub [10, 11, 12, 13, 14, 15, 16] rfl) 0 rfl rfl rfl rfl hl rfl (Nat.le_of_ble_eq_true rfl) dX9_dated_8 ⟨Nat.le_of_ble_eq_true rfl, Nat.le_of_ble_eq_true rfl⟩ ?_
  refine tl_some ?_
  refine u_must (rest := []) ⟨hx, hb, hml, hown, hts⟩ (c_X9_mustExist l g τ) (x_X9_mustExist l hst g τ) gX9_dated_X9_mustExist cd_X9_mustExist rfl ⟨rfl, rfl⟩ ⟨rfl, rfl⟩ ⟨Nat.le_of_ble_eq_true rfl, Nat.le_of_ble_eq_true rfl⟩ ⟨Nat.le_of_ble_eq_true rfl, Nat.le_of_ble_eq_true rfl⟩ hK hZT hZU hP hD hS hl (dHas (R 10 0) z1) rfl (Nat.le_of_ble_eq_true rfl) dX9_dated_11 ⟨Nat.le_of_ble_eq_true rfl, Nat.le_of_ble_eq_true rfl⟩ ⟨Nat.le_of_ble_eq_true rfl, Nat.le_of_ble_eq_true rfl⟩ (fun c_1 H locs q9 ce9 hP hD hS a1 a2 a3 => ?_) (fun c_1 => ?_)
  · have _ := c_1
    have hh : z1 < 0 ∨ R 10 0 ≤ z1 := by have := c_1; simp [dHas] at this; omega
    exact u_out ht hlocks a1 a2 a3 hP hS ⟨Nat.le_of_ble_eq_true rfl, Nat.le_of_ble_eq_true rfl⟩ (⟨Or.inl ⟨by rw [pDated, if_pos (by omega)], rfl⟩, rfl⟩)
  · have _ := c_1
    have hh : 0 ≤ z1 ∧ z1 < R 10 0 := by simpa [dHas] using c_1
    refine lv_iload_n hx hb dX9_dated_14 rfl (lv_at hl 2 rfl) ?_
    refine zi_if_lt (tgt := 27) hx hb ⟨by omega, by omega⟩ dX9_dated_15 (by decide) (fun c_2 => ?_) (fun c_2 => ?_)
    · have _ := c_2
      refine lv_iconst (v := iI 0) hx hb dX9_dated_27 (by decide) ?_
      refine xr_S (As := [Value.int (iI 0)]) (rest := []) ⟨hx, hb, hml, hown, hts⟩ (x_X9_mustFit l hst g τ) gX9_dated_X9_mustFit cd_X9_mustFit rfl ⟨rfl, rfl⟩ ⟨Nat.le_of_ble_eq_true rfl, Nat.le_of_ble_eq_true rfl⟩ hK hZT hZU hP hD hS [] rfl rfl rfl hl rfl (Nat.le_of_ble_eq_true rfl) dX9_dated_28 ⟨Nat.le_of_ble_eq_true rfl, Nat.le_of_ble_eq_true rfl⟩ (fun w1 h => by rw [h]) (fun w1 H locs q9 ce9 hZ hP hD hS a1 a2 a3 => ?_)
      subst hZ
      have hP : va_P g vwCl ([xoC x (ta 0) (aj 0) (me 0) sl sv (ad 0) (bd 0)] ++ (stW ad R τ ++ juW aj J τ)) H := hP
      exact u_out ht hlocks a1 a2 a3 hP hS ⟨Nat.le_of_ble_eq_true rfl, Nat.le_of_ble_eq_true rfl⟩ (⟨Or.inr (⟨by rw [pDated, if_neg (by omega), if_pos (by omega)], rfl⟩), rfl⟩)
    · have _ := c_2
      refine lv_iload_n hx hb dX9_dated_18 rfl (lv_at hl 2 rfl) ?_
      refine lv_iconst (v := iI 3) hx hb dX9_dated_19 (by decide) ?_
      refine zi_icmp_gt (tgt := 27) hx hb ⟨by omega, by omega⟩ ⟨by decide, by decide⟩ dX9_dated_20 (by decide) (fun c_3 => ?_) (fun c_3 => ?_)
      · have _ := c_3
        refine lv_iconst (v := iI 0) hx hb dX9_dated_27 (by decide) ?_
        refine xr_S (As := [Value.int (iI 0)]) (rest := []) ⟨hx, hb, hml, hown, hts⟩ (x_X9_mustFit l hst g τ) gX9_dated_X9_mustFit cd_X9_mustFit rfl ⟨rfl, rfl⟩ ⟨Nat.le_of_ble_eq_true rfl, Nat.le_of_ble_eq_true rfl⟩ hK hZT hZU hP hD hS [] rfl rfl rfl hl rfl (Nat.le_of_ble_eq_true rfl) dX9_dated_28 ⟨Nat.le_of_ble_eq_true rfl, Nat.le_of_ble_eq_true rfl⟩ (fun w1 h => by rw [h]) (fun w1 H locs q9 ce9 hZ hP hD hS a1 a2 a3 => ?_)
        subst hZ
        have hP : va_P g vwCl ([xoC x (ta 0) (aj 0) (me 0) sl sv (ad 0) (bd 0)] ++ (stW ad R τ ++ juW aj J τ)) H := hP
        exact u_out ht hlocks a1 a2 a3 hP hS ⟨Nat.le_of_ble_eq_true rfl, Nat.le_of_ble_eq_true rfl⟩ (⟨Or.inr (⟨by rw [pDated, if_neg (by omega), if_pos (by omega)], rfl⟩), rfl⟩)
      · have _ := c_3
        refine lv_iconst (v := iI 1) hx hb dX9_dated_23 (by decide) ?_
        refine lv_goto (tgt := 28) hx hb dX9_dated_24 (by decide) ?_
        refine ro_S (As := [Value.int (iI 1)]) (rest := []) (v := none) ⟨hx, hb, hml, hown, hts⟩ (c_X9_mustFit l g τ) gX9_dated_X9_mustFit cd_X9_mustFit rfl ⟨rfl, rfl⟩ ⟨Nat.le_of_ble_eq_true rfl, Nat.le_of_ble_eq_true rfl⟩ hK (fun _ _ h => nomatch h) rfl hl rfl (Nat.le_of_ble_eq_true rfl) dX9_dated_28 ⟨Nat.le_of_ble_eq_true rfl, Nat.le_of_ble_eq_true rfl⟩ ?_
        refine tl_none ?_
        refine lv_aload_n hx hb dX9_dated_31 rfl (lv_at hl 0 rfl) ?_
        refine va_get (D := g) (ci := 9) (v := Value.ref (aj 0)) (C := RX9) (T := TX9) (N := 7) hx hb hts in_X9_dated_X9 hown hK.1 hP_x 0 (rfl) rfl 1 (by decide) (hts _ (List.mem_of_getElem? (i := 3) rfl) : (Cond.fieldLink RX9 19 "CordSeals" "judge" "LCordSeals$Judge;").before _ s = true) (fun _ h9 => h9) rfl dX9_dated_32 ?_
        refine lv_aload_n hx hb dX9_dated_35 rfl (lv_at hl 0 rfl) ?_
        refine va_get (D := g) (ci := 9) (v := Value.ref (ad 0)) (C := RX9) (T := TX9) (N := 7) hx hb hts in_X9_dated_X9 hown hK.1 hP_x 0 (rfl) rfl 5 (by decide) (hts _ (List.mem_of_getElem? (i := 1) rfl) : (Cond.fieldLink RX9 41 "CordSeals" "state" "LCordSeals$State;").before _ s = true) (fun _ h9 => h9) rfl dX9_dated_36 ?_
        refine rq_V (As := [Value.ref (ad 0)]) (rest := []) ⟨hx, hb, hml, hown, hts⟩ (c_X1_look l g τ ad aj R J hI hjb hjs) gX9_dated_X1_look cd_X1_look rfl rfl ⟨rfl, rfl⟩ ⟨Nat.le_of_ble_eq_true rfl, Nat.le_of_ble_eq_true rfl⟩ hK hP hD hS (pm3_21 _ _ _) 0 rfl rfl rfl rfl hl rfl (Nat.le_of_ble_eq_true rfl) dX9_dated_39 ⟨Nat.le_of_ble_eq_true rfl, Nat.le_of_ble_eq_true rfl⟩ (fun v w h => by rw [h.2]; exact f_ju aj ad _ _ _ _) (fun v w1 H locs hZ hP hD hS => ?_)
        obtain ⟨rfl, rfl⟩ := hZ
        have hP : va_P g vwCl ([xoC x (ta 0) (aj 0) (me 0) sl sv (ad 0) (bd 0)] ++ (stW ad R τ ++ juW aj (seeJ R J) τ)) H := hP.pm (pm3_21 _ _ _).symm
        have hD : va_D A ([xoC x (ta 0) (aj 0) (me 0) sl sv (ad 0) (bd 0)] ++ (stW ad R τ ++ juW aj (seeJ R J) τ)) := hD.pm (pm3_21 _ _ _).symm
        obtain ⟨J1, hjb1, hjs1, hse1, hje⟩ : ∃ J1, HB J1 ∧ JSp J1 ∧ SEE R J1 6 ∧ seeJ R J = J1 := ⟨_, (see_ok hI hjb hjs).1, (see_ok hI hjb hjs).2, SEE_see hI J, rfl⟩
        rw [hje] at hP hD
        have hP_x := va_left hP
        have hP_s := va_left (va_right hP)
        have hP_j := va_right (va_right hP)
        refine tl_none ?_
        obtain ⟨e0, e1, e2, e4, e3⟩ := hse1.1 z1.toNat (by omega)
        refine lv_iload_n hx hb dX9_dated_42 rfl (lv_at hl 2 rfl) ?_
        by_cases k_4_0 : w1 = 0
        · refine zi_tabl (tgt := 68) (x := w1) k_4_0 hx hb ⟨by decide, by decide⟩ (v := 0) dX9_dated_43 (by decide) (by decide) (off := 25) (by decide +kernel) (by decide) ?_
          refine lv_aload_n hx hb dX9_dated_68 rfl (lv_at hl 0 rfl) ?_
          refine va_get (D := g) (ci := 9) (v := Value.ref (aj 0)) (C := RX9) (T := TX9) (N := 7) hx hb hts in_X9_dated_X9 hown hK.1 hP_x 0 (rfl) rfl 1 (by decide) (hts _ (List.mem_of_getElem? (i := 3) rfl) : (Cond.fieldLink RX9 19 "CordSeals" "judge" "LCordSeals$Judge;").before _ s = true) (fun _ h9 => h9) rfl dX9_dated_69 ?_
          refine va_get (D := g) (ci := 1) (v := Value.ref (aj 4)) (C := RX1) (T := TX1) (N := 6) hx hb hts in_X9_dated_X1 hown hK.1 hP_j 0 (rfl) rfl 3 (by decide) (hts _ (List.mem_of_getElem? (i := 4) rfl) : (Cond.fieldLink RX9 207 "CordSeals$Judge" "first" "[I").before _ s = true) (fun _ h9 => h9) rfl dX9_dated_72 ?_
          refine lv_iload_n hx hb dX9_dated_75 rfl (lv_at hl 1 rfl) ?_
          refine zi_ald hx hb hK hP_j 4 (f := (J1 4)) (rfl) ((z1).toNat) (by omega) (by omega) (by decide) dX9_dated_76 ?_
          have hb_5 := hjb1 4 ((z1).toNat)
          exact u_iret hx hb hr hlocks hP hS ⟨Nat.le_of_ble_eq_true rfl, Nat.le_of_ble_eq_true rfl⟩ (⟨by rw [pDated, if_neg (by omega), if_neg (by omega)], (congrArg (fun z => some (Value.int (iI z))) (show (pDated R z1 w1).2 = J1 4 ((z1).toNat) from by rw [pDated, if_neg (by omega), if_neg (by omega), if_neg (by omega)]; rw [show w1 = 0 from by omega]; exact (y0_eq hI (s := z1.toNat) (by omega)).symm.trans e4.symm)).symm, ⟨_, hjb1, hjs1, rfl⟩⟩) dX9_dated_77
        by_cases k_4_1 : w1 = 1
        · refine zi_tabl (tgt := 78) (x := w1) k_4_1 hx hb ⟨by decide, by decide⟩ (v := 1) dX9_dated_43 (by decide) (by decide) (off := 35) (by decide +kernel) (by decide) ?_
          refine lv_aload_n hx hb dX9_dated_78 rfl (lv_at hl 0 rfl) ?_
          refine va_get (D := g) (ci := 9) (v := Value.ref (aj 0)) (C := RX9) (T := TX9) (N := 7) hx hb hts in_X9_dated_X9 hown hK.1 hP_x 0 (rfl) rfl 1 (by decide) (hts _ (List.mem_of_getElem? (i := 3) rfl) : (Cond.fieldLink RX9 19 "CordSeals" "judge" "LCordSeals$Judge;").before _ s = true) (fun _ h9 => h9) rfl dX9_dated_79 ?_
          refine va_get (D := g) (ci := 1) (v := Value.ref (aj 1)) (C := RX1) (T := TX1) (N := 6) hx hb hts in_X9_dated_X1 hown hK.1 hP_j 0 (rfl) rfl 0 (by decide) (hts _ (List.mem_of_getElem? (i := 5) rfl) : (Cond.fieldLink RX9 210 "CordSeals$Judge" "ofSeals" "[LCordSeals$Years;").before _ s = true) (fun _ h9 => h9) rfl dX9_dated_82 ?_
          refine lv_iload_n hx hb dX9_dated_85 rfl (lv_at hl 1 rfl) ?_
          refine zq_ald hx hb hK hP_j 1 3 (C := RX8) (f := (fun i => some (aj (10 + i)))) (rfl) rfl ((z1).toNat) (by omega) (by omega) (by decide) (rfl) dX9_dated_86 ?_
          refine lv_aload_n hx hb dX9_dated_87 rfl (lv_at hl 0 rfl) ?_
          refine va_get (D := g) (ci := 9) (v := Value.ref (ad 0)) (C := RX9) (T := TX9) (N := 7) hx hb hts in_X9_dated_X9 hown hK.1 hP_x 0 (rfl) rfl 5 (by decide) (hts _ (List.mem_of_getElem? (i := 1) rfl) : (Cond.fieldLink RX9 41 "CordSeals" "state" "LCordSeals$State;").before _ s = true) (fun _ h9 => h9) rfl dX9_dated_88 ?_
          refine va_get (D := g) (ci := 6) (v := Value.ref (ad 1)) (C := RX6) (T := TX6) (N := 5) hx hb hts in_X9_dated_X6 hown hK.1 hP_s 0 (rfl) rfl 0 (by decide) (hts _ (List.mem_of_getElem? (i := 6) rfl) : (Cond.fieldLink RX9 93 "CordSeals$State" "reigns" "LCordSeals$Reigns;").before _ s = true) (fun _ h9 => h9) rfl dX9_dated_91 ?_
          have hj_0 := hjb1 0 ((z1).toNat)
          have hj_1 := hjb1 1 ((z1).toNat)
          have hj_2 := hjb1 2 ((z1).toNat)
          have hj_3 := hjs1 ((z1).toNat) (by omega)
          refine ro_V (As := [Value.ref (ad 1)]) (rest := []) (v := some (Value.int (iI (yLast R (R 1 0).toNat (J1 0 ((z1).toNat)) (J1 1 ((z1).toNat)) (J1 2 ((z1).toNat)))))) ⟨hx, hb, hml, hown, hts⟩ (c_X8_last l g τ (aj (10 + ((z1).toNat))) (J1 0 ((z1).toNat)) (J1 1 ((z1).toNat)) (J1 2 ((z1).toNat)) ⟨by omega, by omega⟩ ⟨by omega, by omega⟩ ⟨by omega, by omega⟩ ad R hB (R 1 0).toNat (by omega) (by omega)) gX9_dated_X8_last cd_X8_last rfl rfl ⟨rfl, rfl⟩ ⟨Nat.le_of_ble_eq_true rfl, Nat.le_of_ble_eq_true rfl⟩ hK ((y1 hP_j (by omega)).app (hP_s.sub [1, 2, 3] rfl)) 0 rfl rfl rfl rfl hl rfl (Nat.le_of_ble_eq_true rfl) dX9_dated_94 ⟨Nat.le_of_ble_eq_true rfl, Nat.le_of_ble_eq_true rfl⟩ ?_
          refine tl_some ?_
          refine cv_i (y := iI (rY R (sLo R z1.toNat) (sHi R z1.toNat) (rMask R z1.toNat) 1)) (congrArg iI (by rw [e0, e1, e2]; exact (sl_yr hI (by omega)).1)) ?_
          exact u_iret hx hb hr hlocks hP hS ⟨Nat.le_of_ble_eq_true rfl, Nat.le_of_ble_eq_true rfl⟩ (⟨by rw [pDated, if_neg (by omega), if_neg (by omega)], (congrArg (fun z => some (Value.int (iI z))) (show (pDated R z1 w1).2 = rY R (sLo R z1.toNat) (sHi R z1.toNat) (rMask R z1.toNat) 1 from by rw [pDated, if_neg (by omega), if_neg (by omega), if_neg (by omega)]; rw [show w1 = 1 from by omega])).symm, ⟨_, hjb1, hjs1, rfl⟩⟩) dX9_dated_97
        by_cases k_4_2 : w1 = 2
        · refine zi_tabl (tgt := 98) (x := w1) k_4_2 hx hb ⟨by decide, by decide⟩ (v := 2) dX9_dated_43 (by decide) (by decide) (off := 55) (by decide +kernel) (by decide) ?_
          refine lv_aload_n hx hb dX9_dated_98 rfl (lv_at hl 0 rfl) ?_
          refine va_get (D := g) (ci := 9) (v := Value.ref (aj 0)) (C := RX9) (T := TX9) (N := 7) hx hb hts in_X9_dated_X9 hown hK.1 hP_x 0 (rfl) rfl 1 (by decide) (hts _ (List.mem_of_getElem? (i := 3) rfl) : (Cond.fieldLink RX9 19 "CordSeals" "judge" "LCordSeals$Judge;").before _ s = true) (fun _ h9 => h9) rfl dX9_dated_99 ?_
          refine va_get (D := g) (ci := 1) (v := Value.ref (aj 1)) (C := RX1) (T := TX1) (N := 6) hx hb hts in_X9_dated_X1 hown hK.1 hP_j 0 (rfl) rfl 0 (by decide) (hts _ (List.mem_of_getElem? (i := 5) rfl) : (Cond.fieldLink RX9 210 "CordSeals$Judge" "ofSeals" "[LCordSeals$Years;").before _ s = true) (fun _ h9 => h9) rfl dX9_dated_102 ?_
          refine lv_iload_n hx hb dX9_dated_105 rfl (lv_at hl 1 rfl) ?_
          refine zq_ald hx hb hK hP_j 1 3 (C := RX8) (f := (fun i => some (aj (10 + i)))) (rfl) rfl ((z1).toNat) (by omega) (by omega) (by decide) (rfl) dX9_dated_106 ?_
          refine lv_aload_n hx hb dX9_dated_107 rfl (lv_at hl 0 rfl) ?_
          refine va_get (D := g) (ci := 9) (v := Value.ref (ad 0)) (C := RX9) (T := TX9) (N := 7) hx hb hts in_X9_dated_X9 hown hK.1 hP_x 0 (rfl) rfl 5 (by decide) (hts _ (List.mem_of_getElem? (i := 1) rfl) : (Cond.fieldLink RX9 41 "CordSeals" "state" "LCordSeals$State;").before _ s = true) (fun _ h9 => h9) rfl dX9_dated_108 ?_
          refine va_get (D := g) (ci := 6) (v := Value.ref (ad 1)) (C := RX6) (T := TX6) (N := 5) hx hb hts in_X9_dated_X6 hown hK.1 hP_s 0 (rfl) rfl 0 (by decide) (hts _ (List.mem_of_getElem? (i := 6) rfl) : (Cond.fieldLink RX9 93 "CordSeals$State" "reigns" "LCordSeals$Reigns;").before _ s = true) (fun _ h9 => h9) rfl dX9_dated_111 ?_
          have hj_0 := hjb1 0 ((z1).toNat)
          have hj_1 := hjb1 1 ((z1).toNat)
          have hj_2 := hjb1 2 ((z1).toNat)
          have hj_3 := hjs1 ((z1).toNat) (by omega)
          refine ro_V (As := [Value.ref (ad 1)]) (rest := []) (v := some (Value.int (iI (yCount R (R 1 0).toNat (J1 0 ((z1).toNat)) (J1 1 ((z1).toNat)) (J1 2 ((z1).toNat)) ((R 1 0).toNat + 1))))) ⟨hx, hb, hml, hown, hts⟩ (c_X8_count l g τ (aj (10 + ((z1).toNat))) (J1 0 ((z1).toNat)) (J1 1 ((z1).toNat)) (J1 2 ((z1).toNat)) ⟨by omega, by omega⟩ ⟨by omega, by omega⟩ ⟨by omega, by omega⟩ ad R hB (R 1 0).toNat (by omega) (by omega)) gX9_dated_X8_count cd_X8_count rfl rfl ⟨rfl, rfl⟩ ⟨Nat.le_of_ble_eq_true rfl, Nat.le_of_ble_eq_true rfl⟩ hK ((y1 hP_j (by omega)).app (hP_s.sub [1, 2, 3] rfl)) 0 rfl rfl rfl rfl hl rfl (Nat.le_of_ble_eq_true rfl) dX9_dated_114 ⟨Nat.le_of_ble_eq_true rfl, Nat.le_of_ble_eq_true rfl⟩ ?_
          refine tl_some ?_
          refine cv_i (y := iI (rY R (sLo R z1.toNat) (sHi R z1.toNat) (rMask R z1.toNat) 2)) (congrArg iI (by rw [e0, e1, e2]; exact (yr_eq hI (sLo_y hI (by omega)).1 (sLo_y hI (by omega)).2 (REL_s hI (by omega))).2.2)) ?_
          exact u_iret hx hb hr hlocks hP hS ⟨Nat.le_of_ble_eq_true rfl, Nat.le_of_ble_eq_true rfl⟩ (⟨by rw [pDated, if_neg (by omega), if_neg (by omega)], (congrArg (fun z => some (Value.int (iI z))) (show (pDated R z1 w1).2 = rY R (sLo R z1.toNat) (sHi R z1.toNat) (rMask R z1.toNat) 2 from by rw [pDated, if_neg (by omega), if_neg (by omega), if_neg (by omega)]; rw [show w1 = 2 from by omega])).symm, ⟨_, hjb1, hjs1, rfl⟩⟩) dX9_dated_117
        refine zi_tablD (x := w1) (tgt := 118) ⟨by omega, by omega⟩ hx hb dX9_dated_43 (by omega) (by decide) ?_
        refine lv_aload_n hx hb dX9_dated_118 rfl (lv_at hl 0 rfl) ?_
        refine va_get (D := g) (ci := 9) (v := Value.ref (aj 0)) (C := RX9) (T := TX9) (N := 7) hx hb hts in_X9_dated_X9 hown hK.1 hP_x 0 (rfl) rfl 1 (by decide) (hts _ (List.mem_of_getElem? (i := 3) rfl) : (Cond.fieldLink RX9 19 "CordSeals" "judge" "LCordSeals$Judge;").before _ s = true) (fun _ h9 => h9) rfl dX9_dated_119 ?_
        refine va_get (D := g) (ci := 1) (v := Value.ref (aj 3)) (C := RX1) (T := TX1) (N := 6) hx hb hts in_X9_dated_X1 hown hK.1 hP_j 0 (rfl) rfl 2 (by decide) (hts _ (List.mem_of_getElem? (i := 7) rfl) : (Cond.fieldLink RX9 222 "CordSeals$Judge" "reason" "[I").before _ s = true) (fun _ h9 => h9) rfl dX9_dated_122 ?_
        refine lv_iload_n hx hb dX9_dated_125 rfl (lv_at hl 1 rfl) ?_
        refine zi_ald hx hb hK hP_j 3 (f := (J1 3)) (rfl) ((z1).toNat) (by omega) (by omega) (by decide) dX9_dated_126 ?_
        have hb_6 := hjb1 3 ((z1).toNat)
        exact u_iret hx hb hr hlocks hP hS ⟨Nat.le_of_ble_eq_true rfl, Nat.le_of_ble_eq_true rfl⟩ (⟨by rw [pDated, if_neg (by omega), if_neg (by omega)], (congrArg (fun z => some (Value.int (iI z))) (show (pDated R z1 w1).2 = J1 3 ((z1).toNat) from by rw [pDated, if_neg (by omega), if_neg (by omega), if_pos (by omega)]; exact (j3_eq hI hse1 (s := z1.toNat) (by omega)).1.symm)).symm, ⟨_, hjb1, hjs1, rfl⟩⟩) dX9_dated_127

theorem cd_X9_isPossible : cd yX9_isPossible 2 := by decide +kernel
theorem in_X9_isPossible_X1 : ∀ w ∈ wsX10, w ∈ wsX9_isPossible := by decide +kernel
theorem in_X9_isPossible_X6 : ∀ w ∈ wsX60, w ∈ wsX9_isPossible := by decide +kernel
theorem in_X9_isPossible_X9 : ∀ w ∈ wsX90, w ∈ wsX9_isPossible := by decide +kernel
set_option maxHeartbeats 1000000 in
set_option maxRecDepth 100000 in
theorem c_X9_isPossible (l : Launch) (hst : l.stackTraces = false) (g : va_G) (τ : Nat → ClassId) (x sl sv : Nat) (ta aj me ad bd : Nat → Nat) (R : Nat → Nat → Int) (hI : SI R) (J : Nat → Nat → Int) (hjb : HB J) (hjs : JSp J) (z1 : Int) (rz1 : -2147483648 ≤ z1 ∧ z1 < 2147483648) (yy : Int) (ryy : -2147483648 ≤ yy ∧ yy < 2147483648)  : uMet l yX9_isPossible wsX9_isPossible { frames := 7, cells := 1, slots := 6, locals := 110 } g τ [Value.ref x, Value.int (iI z1), Value.int (iI yy)] ([xoC x (ta 0) (aj 0) (me 0) sl sv (ad 0) (bd 0)] ++ (stW ad R τ ++ juW aj J τ)) (fun v w => (pPoss R z1 yy).1 = 0 ∧ v = some (Value.int (iI (pPoss R z1 yy).2)) ∧ ∃ J2, HB J2 ∧ JSp J2 ∧ w = [xoC x (ta 0) (aj 0) (me 0) sl sv (ad 0) (bd 0)] ++ (stW ad R τ ++ juW aj J2 τ)) (fun E w => (((pPoss R z1 yy).1 = 1 ∧ E = "java/lang/IndexOutOfBoundsException") ∨ ((pPoss R z1 yy).1 = 2 ∧ E = "java/lang/IllegalArgumentException")) ∧ w = [xoC x (ta 0) (aj 0) (me 0) sl sv (ad 0) (bd 0)] ++ (stW ad R τ ++ juW aj J τ)) := by
  have hB := hI.hB
  have hr0 := hI.r
  have hd0 := hI.d
  have hs0 := hI.s
  have hN := hI.hN
  refine uMet_of (cc := cX9_isPossible) (maxL := 3) (ret := (some .boolean)) (lv := [(0, Value.ref x), (1, Value.int (iI z1)), (2, Value.int (iI yy))]) (by decide) rfl (Nat.le_of_ble_eq_true rfl) rfl ?_
  intro p e s m below meth c hx hb hr hml hts hown hlocks ht A H hP hD hS hK hZT hZU ls hl
  have hP_x := va_left hP
  have hP_s := va_left (va_right hP)
  have hP_j := va_right (va_right hP)
  refine lv_aload_n hx hb dX9_isPossible_0 rfl (lv_at hl 0 rfl) ?_
  refine va_get (D := g) (ci := 9) (v := Value.ref (ad 0)) (C := RX9) (T := TX9) (N := 7) hx hb hts in_X9_isPossible_X9 hown hK.1 hP_x 0 (rfl) rfl 5 (by decide) (hts _ (List.mem_of_getElem? (i := 1) rfl) : (Cond.fieldLink RX9 41 "CordSeals" "state" "LCordSeals$State;").before _ s = true) (fun _ h9 => h9) rfl dX9_isPossible_1 ?_
  refine va_get (D := g) (ci := 6) (v := Value.ref (ad 10)) (C := RX6) (T := TX6) (N := 5) hx hb hts in_X9_isPossible_X6 hown hK.1 hP_s 0 (rfl) rfl 2 (by decide) (hts _ (List.mem_of_getElem? (i := 2) rfl) : (Cond.fieldLink RX9 109 "CordSeals$State" "seals" "LCordSeals$Seals;").before _ s = true) (fun _ h9 => h9) rfl dX9_isPossible_4 ?_
  refine lv_iload_n hx hb dX9_isPossible_7 rfl (lv_at hl 1 rfl) ?_
  refine ro_V (As := [Value.int (iI z1)]) (rest := []) (v := some (Value.int (iI (zB (dHas (R 10 0) z1))))) ⟨hx, hb, hml, hown, hts⟩ (c_X4_has l g τ ad R hB z1 ⟨by omega, by omega⟩) gX9_isPossible_X4_has cd_X4_has rfl rfl ⟨rfl, rfl⟩ ⟨Nat.le_of_ble_eq_true rfl, Nat.le_of_ble_eq_true rfl⟩ hK (hP_s.sub [10, 11, 12, 13, 14, 15, 16] rfl) 0 rfl rfl rfl rfl hl rfl (Nat.le_of_ble_eq_true rfl) dX9_isPossible_8 ⟨Nat.le_of_ble_eq_true rfl, Nat.le_of_ble_eq_true rfl⟩ ?_
  refine tl_some ?_
  refine u_must (rest := []) ⟨hx, hb, hml, hown, hts⟩ (c_X9_mustExist l g τ) (x_X9_mustExist l hst g τ) gX9_isPossible_X9_mustExist cd_X9_mustExist rfl ⟨rfl, rfl⟩ ⟨rfl, rfl⟩ ⟨Nat.le_of_ble_eq_true rfl, Nat.le_of_ble_eq_true rfl⟩ ⟨Nat.le_of_ble_eq_true rfl, Nat.le_of_ble_eq_true rfl⟩ hK hZT hZU hP hD hS hl (dHas (R 10 0) z1) rfl (Nat.le_of_ble_eq_true rfl) dX9_isPossible_11 ⟨Nat.le_of_ble_eq_true rfl, Nat.le_of_ble_eq_true rfl⟩ ⟨Nat.le_of_ble_eq_true rfl, Nat.le_of_ble_eq_true rfl⟩ (fun c_1 H locs q9 ce9 hP hD hS a1 a2 a3 => ?_) (fun c_1 => ?_)
  · have _ := c_1
    have hh : z1 < 0 ∨ R 10 0 ≤ z1 := by have := c_1; simp [dHas] at this; omega
    exact u_out ht hlocks a1 a2 a3 hP hS ⟨Nat.le_of_ble_eq_true rfl, Nat.le_of_ble_eq_true rfl⟩ (⟨Or.inl ⟨by rw [pPoss, if_pos (by omega)], rfl⟩, rfl⟩)
  · have _ := c_1
    have hh : 0 ≤ z1 ∧ z1 < R 10 0 := by simpa [dHas] using c_1
    refine lv_iload_n hx hb dX9_isPossible_14 rfl (lv_at hl 2 rfl) ?_
    refine ro_S (As := [Value.int (iI yy)]) (rest := []) (v := some (Value.int (iI (zB (decide (1000 ≤ yy ∧ yy ≤ 1999)))))) ⟨hx, hb, hml, hown, hts⟩ (c_X9_isYear l g τ yy ⟨by omega, by omega⟩) gX9_isPossible_X9_isYear cd_X9_isYear rfl ⟨rfl, rfl⟩ ⟨Nat.le_of_ble_eq_true rfl, Nat.le_of_ble_eq_true rfl⟩ hK (fun _ _ h => nomatch h) rfl hl rfl (Nat.le_of_ble_eq_true rfl) dX9_isPossible_15 ⟨Nat.le_of_ble_eq_true rfl, Nat.le_of_ble_eq_true rfl⟩ ?_
    refine tl_some ?_
    refine u_must (rest := []) ⟨hx, hb, hml, hown, hts⟩ (c_X9_mustFit l g τ) (x_X9_mustFit l hst g τ) gX9_isPossible_X9_mustFit cd_X9_mustFit rfl ⟨rfl, rfl⟩ ⟨rfl, rfl⟩ ⟨Nat.le_of_ble_eq_true rfl, Nat.le_of_ble_eq_true rfl⟩ ⟨Nat.le_of_ble_eq_true rfl, Nat.le_of_ble_eq_true rfl⟩ hK hZT hZU hP hD hS hl (decide (1000 ≤ yy ∧ yy ≤ 1999)) rfl (Nat.le_of_ble_eq_true rfl) dX9_isPossible_18 ⟨Nat.le_of_ble_eq_true rfl, Nat.le_of_ble_eq_true rfl⟩ ⟨Nat.le_of_ble_eq_true rfl, Nat.le_of_ble_eq_true rfl⟩ (fun c_2 H locs q9 ce9 hP hD hS a1 a2 a3 => ?_) (fun c_2 => ?_)
    · have cd_c_2 := of_decide_eq_false c_2
      exact u_out ht hlocks a1 a2 a3 hP hS ⟨Nat.le_of_ble_eq_true rfl, Nat.le_of_ble_eq_true rfl⟩ (⟨Or.inr (⟨by rw [pPoss, if_neg (by omega), if_pos (by omega)], rfl⟩), rfl⟩)
    · have cd_c_2 := of_decide_eq_true c_2
      refine lv_aload_n hx hb dX9_isPossible_21 rfl (lv_at hl 0 rfl) ?_
      refine va_get (D := g) (ci := 9) (v := Value.ref (aj 0)) (C := RX9) (T := TX9) (N := 7) hx hb hts in_X9_isPossible_X9 hown hK.1 hP_x 0 (rfl) rfl 1 (by decide) (hts _ (List.mem_of_getElem? (i := 3) rfl) : (Cond.fieldLink RX9 19 "CordSeals" "judge" "LCordSeals$Judge;").before _ s = true) (fun _ h9 => h9) rfl dX9_isPossible_22 ?_
      refine lv_aload_n hx hb dX9_isPossible_25 rfl (lv_at hl 0 rfl) ?_
      refine va_get (D := g) (ci := 9) (v := Value.ref (ad 0)) (C := RX9) (T := TX9) (N := 7) hx hb hts in_X9_isPossible_X9 hown hK.1 hP_x 0 (rfl) rfl 5 (by decide) (hts _ (List.mem_of_getElem? (i := 1) rfl) : (Cond.fieldLink RX9 41 "CordSeals" "state" "LCordSeals$State;").before _ s = true) (fun _ h9 => h9) rfl dX9_isPossible_26 ?_
      refine rq_V (As := [Value.ref (ad 0)]) (rest := []) ⟨hx, hb, hml, hown, hts⟩ (c_X1_look l g τ ad aj R J hI hjb hjs) gX9_isPossible_X1_look cd_X1_look rfl rfl ⟨rfl, rfl⟩ ⟨Nat.le_of_ble_eq_true rfl, Nat.le_of_ble_eq_true rfl⟩ hK hP hD hS (pm3_21 _ _ _) 0 rfl rfl rfl rfl hl rfl (Nat.le_of_ble_eq_true rfl) dX9_isPossible_29 ⟨Nat.le_of_ble_eq_true rfl, Nat.le_of_ble_eq_true rfl⟩ (fun v w h => by rw [h.2]; exact f_ju aj ad _ _ _ _) (fun v w1 H locs hZ hP hD hS => ?_)
      obtain ⟨rfl, rfl⟩ := hZ
      have hP : va_P g vwCl ([xoC x (ta 0) (aj 0) (me 0) sl sv (ad 0) (bd 0)] ++ (stW ad R τ ++ juW aj (seeJ R J) τ)) H := hP.pm (pm3_21 _ _ _).symm
      have hD : va_D A ([xoC x (ta 0) (aj 0) (me 0) sl sv (ad 0) (bd 0)] ++ (stW ad R τ ++ juW aj (seeJ R J) τ)) := hD.pm (pm3_21 _ _ _).symm
      obtain ⟨J1, hjb1, hjs1, hse1, hje⟩ : ∃ J1, HB J1 ∧ JSp J1 ∧ SEE R J1 6 ∧ seeJ R J = J1 := ⟨_, (see_ok hI hjb hjs).1, (see_ok hI hjb hjs).2, SEE_see hI J, rfl⟩
      rw [hje] at hP hD
      have hP_x := va_left hP
      have hP_s := va_left (va_right hP)
      have hP_j := va_right (va_right hP)
      refine tl_none ?_
      obtain ⟨e0, e1, e2, e4, e3⟩ := hse1.1 z1.toNat (by omega)
      refine lv_aload_n hx hb dX9_isPossible_32 rfl (lv_at hl 0 rfl) ?_
      refine va_get (D := g) (ci := 9) (v := Value.ref (aj 0)) (C := RX9) (T := TX9) (N := 7) hx hb hts in_X9_isPossible_X9 hown hK.1 hP_x 0 (rfl) rfl 1 (by decide) (hts _ (List.mem_of_getElem? (i := 3) rfl) : (Cond.fieldLink RX9 19 "CordSeals" "judge" "LCordSeals$Judge;").before _ s = true) (fun _ h9 => h9) rfl dX9_isPossible_33 ?_
      refine va_get (D := g) (ci := 1) (v := Value.ref (aj 1)) (C := RX1) (T := TX1) (N := 6) hx hb hts in_X9_isPossible_X1 hown hK.1 hP_j 0 (rfl) rfl 0 (by decide) (hts _ (List.mem_of_getElem? (i := 4) rfl) : (Cond.fieldLink RX9 210 "CordSeals$Judge" "ofSeals" "[LCordSeals$Years;").before _ s = true) (fun _ h9 => h9) rfl dX9_isPossible_36 ?_
      refine lv_iload_n hx hb dX9_isPossible_39 rfl (lv_at hl 1 rfl) ?_
      refine zq_ald hx hb hK hP_j 1 3 (C := RX8) (f := (fun i => some (aj (10 + i)))) (rfl) rfl ((z1).toNat) (by omega) (by omega) (by decide) (rfl) dX9_isPossible_40 ?_
      refine lv_aload_n hx hb dX9_isPossible_41 rfl (lv_at hl 0 rfl) ?_
      refine va_get (D := g) (ci := 9) (v := Value.ref (ad 0)) (C := RX9) (T := TX9) (N := 7) hx hb hts in_X9_isPossible_X9 hown hK.1 hP_x 0 (rfl) rfl 5 (by decide) (hts _ (List.mem_of_getElem? (i := 1) rfl) : (Cond.fieldLink RX9 41 "CordSeals" "state" "LCordSeals$State;").before _ s = true) (fun _ h9 => h9) rfl dX9_isPossible_42 ?_
      refine va_get (D := g) (ci := 6) (v := Value.ref (ad 1)) (C := RX6) (T := TX6) (N := 5) hx hb hts in_X9_isPossible_X6 hown hK.1 hP_s 0 (rfl) rfl 0 (by decide) (hts _ (List.mem_of_getElem? (i := 5) rfl) : (Cond.fieldLink RX9 93 "CordSeals$State" "reigns" "LCordSeals$Reigns;").before _ s = true) (fun _ h9 => h9) rfl dX9_isPossible_45 ?_
      refine lv_iload_n hx hb dX9_isPossible_48 rfl (lv_at hl 2 rfl) ?_
      have hj_0 := hjb1 0 ((z1).toNat)
      have hj_1 := hjb1 1 ((z1).toNat)
      have hj_2 := hjb1 2 ((z1).toNat)
      have hj_3 := hjs1 ((z1).toNat) (by omega)
      refine ro_V (As := [Value.ref (ad 1), Value.int (iI yy)]) (rest := []) (v := some (Value.int (iI (zB (yHas R (R 1 0).toNat (J1 0 ((z1).toNat)) (J1 1 ((z1).toNat)) (J1 2 ((z1).toNat)) yy))))) ⟨hx, hb, hml, hown, hts⟩ (c_X8_contains l g τ (aj (10 + ((z1).toNat))) (J1 0 ((z1).toNat)) (J1 1 ((z1).toNat)) (J1 2 ((z1).toNat)) ⟨by omega, by omega⟩ ⟨by omega, by omega⟩ ⟨by omega, by omega⟩ ad R hB (R 1 0).toNat (by omega) (by omega) yy ⟨by omega, by omega⟩) gX9_isPossible_X8_contains cd_X8_contains rfl rfl ⟨rfl, rfl⟩ ⟨Nat.le_of_ble_eq_true rfl, Nat.le_of_ble_eq_true rfl⟩ hK ((y1 hP_j (by omega)).app (hP_s.sub [1, 2, 3] rfl)) 0 rfl rfl rfl rfl hl rfl (Nat.le_of_ble_eq_true rfl) dX9_isPossible_49 ⟨Nat.le_of_ble_eq_true rfl, Nat.le_of_ble_eq_true rfl⟩ ?_
      refine tl_some ?_
      refine cv_i (y := iI (zB (rCan R z1.toNat yy))) (congrArg iI (by rw [e0, e1, e2, has_eq hI (by omega) ⟨by omega, by omega⟩])) ?_
      exact u_zret hx hb hr hlocks hP hS ⟨Nat.le_of_ble_eq_true rfl, Nat.le_of_ble_eq_true rfl⟩ (⟨⟨by rw [pPoss, if_neg (by omega), if_neg (by omega)], (congrArg (fun z => some (Value.int (iI z))) (show (pPoss R z1 yy).2 = zB (rCan R z1.toNat yy) from by rw [pPoss, if_neg (by omega), if_neg (by omega)])).symm, ⟨_, hjb1, hjs1, rfl⟩⟩, ⟨_, iI_zB _⟩⟩) dX9_isPossible_52

theorem cd_X9_charter : cd yX9_charter 2 := by decide +kernel
theorem in_X9_charter_X1 : ∀ w ∈ wsX10, w ∈ wsX9_charter := by decide +kernel
theorem in_X9_charter_X6 : ∀ w ∈ wsX60, w ∈ wsX9_charter := by decide +kernel
theorem in_X9_charter_X9 : ∀ w ∈ wsX90, w ∈ wsX9_charter := by decide +kernel
set_option maxHeartbeats 1000000 in
set_option maxRecDepth 100000 in
theorem c_X9_charter (l : Launch) (hst : l.stackTraces = false) (g : va_G) (τ : Nat → ClassId) (x sl sv : Nat) (ta aj me ad bd : Nat → Nat) (R : Nat → Nat → Int) (hI : SI R) (J : Nat → Nat → Int) (hjb : HB J) (hjs : JSp J) (c1 : Int) (rc1 : -2147483648 ≤ c1 ∧ c1 < 2147483648) (w1 : Int) (rw1 : -2147483648 ≤ w1 ∧ w1 < 2147483648)  : uMet l yX9_charter wsX9_charter { frames := 7, cells := 1, slots := 6, locals := 110 } g τ [Value.ref x, Value.int (iI c1), Value.int (iI w1)] ([xoC x (ta 0) (aj 0) (me 0) sl sv (ad 0) (bd 0)] ++ (stW ad R τ ++ juW aj J τ)) (fun v w => (pChart R c1 w1).1 = 0 ∧ v = some (Value.int (iI (pChart R c1 w1).2)) ∧ ∃ J2, HB J2 ∧ JSp J2 ∧ w = [xoC x (ta 0) (aj 0) (me 0) sl sv (ad 0) (bd 0)] ++ (stW ad R τ ++ juW aj J2 τ)) (fun E w => (((pChart R c1 w1).1 = 1 ∧ E = "java/lang/IndexOutOfBoundsException") ∨ ((pChart R c1 w1).1 = 2 ∧ E = "java/lang/IllegalArgumentException")) ∧ w = [xoC x (ta 0) (aj 0) (me 0) sl sv (ad 0) (bd 0)] ++ (stW ad R τ ++ juW aj J τ)) := by
  have hB := hI.hB
  have hr0 := hI.r
  have hd0 := hI.d
  have hs0 := hI.s
  have hN := hI.hN
  refine uMet_of (cc := cX9_charter) (maxL := 3) (ret := (some .int)) (lv := [(0, Value.ref x), (1, Value.int (iI c1)), (2, Value.int (iI w1))]) (by decide) rfl (Nat.le_of_ble_eq_true rfl) rfl ?_
  intro p e s m below meth c hx hb hr hml hts hown hlocks ht A H hP hD hS hK hZT hZU ls hl
  have hP_x := va_left hP
  have hP_s := va_left (va_right hP)
  have hP_j := va_right (va_right hP)
  refine lv_iload_n hx hb dX9_charter_0 rfl (lv_at hl 1 rfl) ?_
  refine ro_S (As := [Value.int (iI c1)]) (rest := []) (v := some (Value.int (iI (zB (decide (0 ≤ c1 ∧ c1 < 6)))))) ⟨hx, hb, hml, hown, hts⟩ (c_X9_isCharter l g τ c1 ⟨by omega, by omega⟩) gX9_charter_X9_isCharter cd_X9_isCharter rfl ⟨rfl, rfl⟩ ⟨Nat.le_of_ble_eq_true rfl, Nat.le_of_ble_eq_true rfl⟩ hK (fun _ _ h => nomatch h) rfl hl rfl (Nat.le_of_ble_eq_true rfl) dX9_charter_1 ⟨Nat.le_of_ble_eq_true rfl, Nat.le_of_ble_eq_true rfl⟩ ?_
  refine tl_some ?_
  refine u_must (rest := []) ⟨hx, hb, hml, hown, hts⟩ (c_X9_mustExist l g τ) (x_X9_mustExist l hst g τ) gX9_charter_X9_mustExist cd_X9_mustExist rfl ⟨rfl, rfl⟩ ⟨rfl, rfl⟩ ⟨Nat.le_of_ble_eq_true rfl, Nat.le_of_ble_eq_true rfl⟩ ⟨Nat.le_of_ble_eq_true rfl, Nat.le_of_ble_eq_true rfl⟩ hK hZT hZU hP hD hS hl (decide (0 ≤ c1 ∧ c1 < 6)) rfl (Nat.le_of_ble_eq_true rfl) dX9_charter_4 ⟨Nat.le_of_ble_eq_true rfl, Nat.le_of_ble_eq_true rfl⟩ ⟨Nat.le_of_ble_eq_true rfl, Nat.le_of_ble_eq_true rfl⟩ (fun c_1 H locs q9 ce9 hP hD hS a1 a2 a3 => ?_) (fun c_1 => ?_)
  · have cd_c_1 := of_decide_eq_false c_1
    exact u_out ht hlocks a1 a2 a3 hP hS ⟨Nat.le_of_ble_eq_true rfl, Nat.le_of_ble_eq_true rfl⟩ (⟨Or.inl ⟨by rw [pChart, if_pos (by omega)], rfl⟩, rfl⟩)
  · have cd_c_1 := of_decide_eq_true c_1
    refine lv_iload_n hx hb dX9_charter_7 rfl (lv_at hl 2 rfl) ?_
    refine zi_if_lt (tgt := 20) hx hb ⟨by omega, by omega⟩ dX9_charter_8 (by decide) (fun c_2 => ?_) (fun c_2 => ?_)
    · have _ := c_2
      refine lv_iconst (v := iI 0) hx hb dX9_charter_20 (by decide) ?_
      refine xr_S (As := [Value.int (iI 0)]) (rest := []) ⟨hx, hb, hml, hown, hts⟩ (x_X9_mustFit l hst g τ) gX9_charter_X9_mustFit cd_X9_mustFit rfl ⟨rfl, rfl⟩ ⟨Nat.le_of_ble_eq_true rfl, Nat.le_of_ble_eq_true rfl⟩ hK hZT hZU hP hD hS [] rfl rfl rfl hl rfl (Nat.le_of_ble_eq_true rfl) dX9_charter_21 ⟨Nat.le_of_ble_eq_true rfl, Nat.le_of_ble_eq_true rfl⟩ (fun w1 h => by rw [h]) (fun w1 H locs q9 ce9 hZ hP hD hS a1 a2 a3 => ?_)
      subst hZ
      have hP : va_P g vwCl ([xoC x (ta 0) (aj 0) (me 0) sl sv (ad 0) (bd 0)] ++ (stW ad R τ ++ juW aj J τ)) H := hP
      exact u_out ht hlocks a1 a2 a3 hP hS ⟨Nat.le_of_ble_eq_true rfl, Nat.le_of_ble_eq_true rfl⟩ (⟨Or.inr (⟨by rw [pChart, if_neg (by omega), if_pos (by omega)], rfl⟩), rfl⟩)
    · have _ := c_2
      refine lv_iload_n hx hb dX9_charter_11 rfl (lv_at hl 2 rfl) ?_
      refine lv_iconst (v := iI 4) hx hb dX9_charter_12 (by decide) ?_
      refine zi_icmp_gt (tgt := 20) hx hb ⟨by omega, by omega⟩ ⟨by decide, by decide⟩ dX9_charter_13 (by decide) (fun c_3 => ?_) (fun c_3 => ?_)
      · have _ := c_3
        refine lv_iconst (v := iI 0) hx hb dX9_charter_20 (by decide) ?_
        refine xr_S (As := [Value.int (iI 0)]) (rest := []) ⟨hx, hb, hml, hown, hts⟩ (x_X9_mustFit l hst g τ) gX9_charter_X9_mustFit cd_X9_mustFit rfl ⟨rfl, rfl⟩ ⟨Nat.le_of_ble_eq_true rfl, Nat.le_of_ble_eq_true rfl⟩ hK hZT hZU hP hD hS [] rfl rfl rfl hl rfl (Nat.le_of_ble_eq_true rfl) dX9_charter_21 ⟨Nat.le_of_ble_eq_true rfl, Nat.le_of_ble_eq_true rfl⟩ (fun w1 h => by rw [h]) (fun w1 H locs q9 ce9 hZ hP hD hS a1 a2 a3 => ?_)
        subst hZ
        have hP : va_P g vwCl ([xoC x (ta 0) (aj 0) (me 0) sl sv (ad 0) (bd 0)] ++ (stW ad R τ ++ juW aj J τ)) H := hP
        exact u_out ht hlocks a1 a2 a3 hP hS ⟨Nat.le_of_ble_eq_true rfl, Nat.le_of_ble_eq_true rfl⟩ (⟨Or.inr (⟨by rw [pChart, if_neg (by omega), if_pos (by omega)], rfl⟩), rfl⟩)
      · have _ := c_3
        refine lv_iconst (v := iI 1) hx hb dX9_charter_16 (by decide) ?_
        refine lv_goto (tgt := 21) hx hb dX9_charter_17 (by decide) ?_
        refine ro_S (As := [Value.int (iI 1)]) (rest := []) (v := none) ⟨hx, hb, hml, hown, hts⟩ (c_X9_mustFit l g τ) gX9_charter_X9_mustFit cd_X9_mustFit rfl ⟨rfl, rfl⟩ ⟨Nat.le_of_ble_eq_true rfl, Nat.le_of_ble_eq_true rfl⟩ hK (fun _ _ h => nomatch h) rfl hl rfl (Nat.le_of_ble_eq_true rfl) dX9_charter_21 ⟨Nat.le_of_ble_eq_true rfl, Nat.le_of_ble_eq_true rfl⟩ ?_
        refine tl_none ?_
        refine lv_aload_n hx hb dX9_charter_24 rfl (lv_at hl 0 rfl) ?_
        refine va_get (D := g) (ci := 9) (v := Value.ref (aj 0)) (C := RX9) (T := TX9) (N := 7) hx hb hts in_X9_charter_X9 hown hK.1 hP_x 0 (rfl) rfl 1 (by decide) (hts _ (List.mem_of_getElem? (i := 1) rfl) : (Cond.fieldLink RX9 19 "CordSeals" "judge" "LCordSeals$Judge;").before _ s = true) (fun _ h9 => h9) rfl dX9_charter_25 ?_
        refine lv_aload_n hx hb dX9_charter_28 rfl (lv_at hl 0 rfl) ?_
        refine va_get (D := g) (ci := 9) (v := Value.ref (ad 0)) (C := RX9) (T := TX9) (N := 7) hx hb hts in_X9_charter_X9 hown hK.1 hP_x 0 (rfl) rfl 5 (by decide) (hts _ (List.mem_of_getElem? (i := 2) rfl) : (Cond.fieldLink RX9 41 "CordSeals" "state" "LCordSeals$State;").before _ s = true) (fun _ h9 => h9) rfl dX9_charter_29 ?_
        refine rq_V (As := [Value.ref (ad 0)]) (rest := []) ⟨hx, hb, hml, hown, hts⟩ (c_X1_look l g τ ad aj R J hI hjb hjs) gX9_charter_X1_look cd_X1_look rfl rfl ⟨rfl, rfl⟩ ⟨Nat.le_of_ble_eq_true rfl, Nat.le_of_ble_eq_true rfl⟩ hK hP hD hS (pm3_21 _ _ _) 0 rfl rfl rfl rfl hl rfl (Nat.le_of_ble_eq_true rfl) dX9_charter_32 ⟨Nat.le_of_ble_eq_true rfl, Nat.le_of_ble_eq_true rfl⟩ (fun v w h => by rw [h.2]; exact f_ju aj ad _ _ _ _) (fun v w1 H locs hZ hP hD hS => ?_)
        obtain ⟨rfl, rfl⟩ := hZ
        have hP : va_P g vwCl ([xoC x (ta 0) (aj 0) (me 0) sl sv (ad 0) (bd 0)] ++ (stW ad R τ ++ juW aj (seeJ R J) τ)) H := hP.pm (pm3_21 _ _ _).symm
        have hD : va_D A ([xoC x (ta 0) (aj 0) (me 0) sl sv (ad 0) (bd 0)] ++ (stW ad R τ ++ juW aj (seeJ R J) τ)) := hD.pm (pm3_21 _ _ _).symm
        obtain ⟨J1, hjb1, hjs1, hse1, hje⟩ : ∃ J1, HB J1 ∧ JSp J1 ∧ SEE R J1 6 ∧ seeJ R J = J1 := ⟨_, (see_ok hI hjb hjs).1, (see_ok hI hjb hjs).2, SEE_see hI J, rfl⟩
        rw [hje] at hP hD
        have hP_x := va_left hP
        have hP_s := va_left (va_right hP)
        have hP_j := va_right (va_right hP)
        refine tl_none ?_
        obtain ⟨e0, e1, e2⟩ := hse1.2 c1.toNat (by omega)
        have ec : ((c1.toNat : Nat) : Int) = c1 := by omega
        rw [ec] at e0 e1 e2
        refine lv_iload_n hx hb dX9_charter_35 rfl (lv_at hl 2 rfl) ?_
        by_cases k_4_0 : w1 = 0
        · refine zi_tabl (tgt := 68) (x := w1) k_4_0 hx hb ⟨by decide, by decide⟩ (v := 0) dX9_charter_36 (by decide) (by decide) (off := 32) (by decide +kernel) (by decide) ?_
          refine lv_aload_n hx hb dX9_charter_68 rfl (lv_at hl 0 rfl) ?_
          refine va_get (D := g) (ci := 9) (v := Value.ref (ad 0)) (C := RX9) (T := TX9) (N := 7) hx hb hts in_X9_charter_X9 hown hK.1 hP_x 0 (rfl) rfl 5 (by decide) (hts _ (List.mem_of_getElem? (i := 2) rfl) : (Cond.fieldLink RX9 41 "CordSeals" "state" "LCordSeals$State;").before _ s = true) (fun _ h9 => h9) rfl dX9_charter_69 ?_
          refine va_get (D := g) (ci := 6) (v := Value.ref (ad 10)) (C := RX6) (T := TX6) (N := 5) hx hb hts in_X9_charter_X6 hown hK.1 hP_s 0 (rfl) rfl 2 (by decide) (hts _ (List.mem_of_getElem? (i := 3) rfl) : (Cond.fieldLink RX9 109 "CordSeals$State" "seals" "LCordSeals$Seals;").before _ s = true) (fun _ h9 => h9) rfl dX9_charter_72 ?_
          refine lv_iload_n hx hb dX9_charter_75 rfl (lv_at hl 1 rfl) ?_
          refine ro_V (As := [Value.int (iI c1)]) (rest := []) (v := some (Value.int (iI (cnt (fun s => decide (R 16 s = c1)) (R 10 0).toNat)))) ⟨hx, hb, hml, hown, hts⟩ (c_X4_ofOneCharter l g τ ad R hB (R 10 0).toNat (by omega) (by omega) c1 ⟨by omega, by omega⟩) gX9_charter_X4_ofOneCharter cd_X4_ofOneCharter rfl rfl ⟨rfl, rfl⟩ ⟨Nat.le_of_ble_eq_true rfl, Nat.le_of_ble_eq_true rfl⟩ hK (hP_s.sub [10, 11, 12, 13, 14, 15, 16] rfl) 0 rfl rfl rfl rfl hl rfl (Nat.le_of_ble_eq_true rfl) dX9_charter_76 ⟨Nat.le_of_ble_eq_true rfl, Nat.le_of_ble_eq_true rfl⟩ ?_
          refine tl_some ?_
          exact u_iret hx hb hr hlocks hP hS ⟨Nat.le_of_ble_eq_true rfl, Nat.le_of_ble_eq_true rfl⟩ (⟨by rw [pChart, if_neg (by omega), if_neg (by omega)], (congrArg (fun z => some (Value.int (iI z))) (show (pChart R c1 w1).2 = cnt (fun s => decide (R 16 s = c1)) (R 10 0).toNat from by rw [pChart, if_neg (by omega), if_neg (by omega), if_pos (by omega)])).symm, ⟨_, hjb1, hjs1, rfl⟩⟩) dX9_charter_79
        by_cases k_4_1 : w1 = 1
        · refine zi_tabl (tgt := 80) (x := w1) k_4_1 hx hb ⟨by decide, by decide⟩ (v := 1) dX9_charter_36 (by decide) (by decide) (off := 44) (by decide +kernel) (by decide) ?_
          refine lv_aload_n hx hb dX9_charter_80 rfl (lv_at hl 0 rfl) ?_
          refine va_get (D := g) (ci := 9) (v := Value.ref (aj 0)) (C := RX9) (T := TX9) (N := 7) hx hb hts in_X9_charter_X9 hown hK.1 hP_x 0 (rfl) rfl 1 (by decide) (hts _ (List.mem_of_getElem? (i := 1) rfl) : (Cond.fieldLink RX9 19 "CordSeals" "judge" "LCordSeals$Judge;").before _ s = true) (fun _ h9 => h9) rfl dX9_charter_81 ?_
          refine va_get (D := g) (ci := 1) (v := Value.ref (aj 2)) (C := RX1) (T := TX1) (N := 6) hx hb hts in_X9_charter_X1 hown hK.1 hP_j 0 (rfl) rfl 1 (by decide) (hts _ (List.mem_of_getElem? (i := 4) rfl) : (Cond.fieldLink RX9 238 "CordSeals$Judge" "ofCharters" "[LCordSeals$Years;").before _ s = true) (fun _ h9 => h9) rfl dX9_charter_84 ?_
          refine lv_iload_n hx hb dX9_charter_87 rfl (lv_at hl 1 rfl) ?_
          refine zq_ald hx hb hK hP_j 2 3 (C := RX8) (f := (fun i => some (aj (10 + (24 + i))))) (rfl) rfl ((c1).toNat) (by omega) (by omega) (by decide) (rfl) dX9_charter_88 ?_
          refine lv_aload_n hx hb dX9_charter_89 rfl (lv_at hl 0 rfl) ?_
          refine va_get (D := g) (ci := 9) (v := Value.ref (ad 0)) (C := RX9) (T := TX9) (N := 7) hx hb hts in_X9_charter_X9 hown hK.1 hP_x 0 (rfl) rfl 5 (by decide) (hts _ (List.mem_of_getElem? (i := 2) rfl) : (Cond.fieldLink RX9 41 "CordSeals" "state" "LCordSeals$State;").before _ s = true) (fun _ h9 => h9) rfl dX9_charter_90 ?_
          refine va_get (D := g) (ci := 6) (v := Value.ref (ad 1)) (C := RX6) (T := TX6) (N := 5) hx hb hts in_X9_charter_X6 hown hK.1 hP_s 0 (rfl) rfl 0 (by decide) (hts _ (List.mem_of_getElem? (i := 5) rfl) : (Cond.fieldLink RX9 93 "CordSeals$State" "reigns" "LCordSeals$Reigns;").before _ s = true) (fun _ h9 => h9) rfl dX9_charter_93 ?_
          have hj_0 := hjb1 0 (24 + (c1).toNat)
          have hj_1 := hjb1 1 (24 + (c1).toNat)
          have hj_2 := hjb1 2 (24 + (c1).toNat)
          have hj_3 := hjs1 (24 + (c1).toNat) (by omega)
          refine ro_V (As := [Value.ref (ad 1)]) (rest := []) (v := some (Value.int (iI (yFirst R (R 1 0).toNat (J1 0 (24 + (c1).toNat)) (J1 1 (24 + (c1).toNat)) (J1 2 (24 + (c1).toNat)))))) ⟨hx, hb, hml, hown, hts⟩ (c_X8_first l g τ (aj (10 + (24 + (c1).toNat))) (J1 0 (24 + (c1).toNat)) (J1 1 (24 + (c1).toNat)) (J1 2 (24 + (c1).toNat)) ⟨by omega, by omega⟩ ⟨by omega, by omega⟩ ⟨by omega, by omega⟩ ad R hB (R 1 0).toNat (by omega) (by omega)) gX9_charter_X8_first cd_X8_first rfl rfl ⟨rfl, rfl⟩ ⟨Nat.le_of_ble_eq_true rfl, Nat.le_of_ble_eq_true rfl⟩ hK ((y1 hP_j (by omega)).app (hP_s.sub [1, 2, 3] rfl)) 0 rfl rfl rfl rfl hl rfl (Nat.le_of_ble_eq_true rfl) dX9_charter_96 ⟨Nat.le_of_ble_eq_true rfl, Nat.le_of_ble_eq_true rfl⟩ ?_
          refine tl_some ?_
          refine cv_i (y := iI (rCh R c1 (-1) 0)) (congrArg iI (by rw [e0, e1, e2]; exact (ch_eq hI c1 (-1)).1)) ?_
          exact u_iret hx hb hr hlocks hP hS ⟨Nat.le_of_ble_eq_true rfl, Nat.le_of_ble_eq_true rfl⟩ (⟨by rw [pChart, if_neg (by omega), if_neg (by omega)], (congrArg (fun z => some (Value.int (iI z))) (show (pChart R c1 w1).2 = rCh R c1 (-1) 0 from by rw [pChart, if_neg (by omega), if_neg (by omega), if_neg (by omega), if_neg (by omega)]; rw [show w1 - 1 = 0 from by omega])).symm, ⟨_, hjb1, hjs1, rfl⟩⟩) dX9_charter_99
        by_cases k_4_2 : w1 = 2
        · refine zi_tabl (tgt := 100) (x := w1) k_4_2 hx hb ⟨by decide, by decide⟩ (v := 2) dX9_charter_36 (by decide) (by decide) (off := 64) (by decide +kernel) (by decide) ?_
          refine lv_aload_n hx hb dX9_charter_100 rfl (lv_at hl 0 rfl) ?_
          refine va_get (D := g) (ci := 9) (v := Value.ref (aj 0)) (C := RX9) (T := TX9) (N := 7) hx hb hts in_X9_charter_X9 hown hK.1 hP_x 0 (rfl) rfl 1 (by decide) (hts _ (List.mem_of_getElem? (i := 1) rfl) : (Cond.fieldLink RX9 19 "CordSeals" "judge" "LCordSeals$Judge;").before _ s = true) (fun _ h9 => h9) rfl dX9_charter_101 ?_
          refine va_get (D := g) (ci := 1) (v := Value.ref (aj 2)) (C := RX1) (T := TX1) (N := 6) hx hb hts in_X9_charter_X1 hown hK.1 hP_j 0 (rfl) rfl 1 (by decide) (hts _ (List.mem_of_getElem? (i := 4) rfl) : (Cond.fieldLink RX9 238 "CordSeals$Judge" "ofCharters" "[LCordSeals$Years;").before _ s = true) (fun _ h9 => h9) rfl dX9_charter_104 ?_
          refine lv_iload_n hx hb dX9_charter_107 rfl (lv_at hl 1 rfl) ?_
          refine zq_ald hx hb hK hP_j 2 3 (C := RX8) (f := (fun i => some (aj (10 + (24 + i))))) (rfl) rfl ((c1).toNat) (by omega) (by omega) (by decide) (rfl) dX9_charter_108 ?_
          refine lv_aload_n hx hb dX9_charter_109 rfl (lv_at hl 0 rfl) ?_
          refine va_get (D := g) (ci := 9) (v := Value.ref (ad 0)) (C := RX9) (T := TX9) (N := 7) hx hb hts in_X9_charter_X9 hown hK.1 hP_x 0 (rfl) rfl 5 (by decide) (hts _ (List.mem_of_getElem? (i := 2) rfl) : (Cond.fieldLink RX9 41 "CordSeals" "state" "LCordSeals$State;").before _ s = true) (fun _ h9 => h9) rfl dX9_charter_110 ?_
          refine va_get (D := g) (ci := 6) (v := Value.ref (ad 1)) (C := RX6) (T := TX6) (N := 5) hx hb hts in_X9_charter_X6 hown hK.1 hP_s 0 (rfl) rfl 0 (by decide) (hts _ (List.mem_of_getElem? (i := 5) rfl) : (Cond.fieldLink RX9 93 "CordSeals$State" "reigns" "LCordSeals$Reigns;").before _ s = true) (fun _ h9 => h9) rfl dX9_charter_113 ?_
          have hj_0 := hjb1 0 (24 + (c1).toNat)
          have hj_1 := hjb1 1 (24 + (c1).toNat)
          have hj_2 := hjb1 2 (24 + (c1).toNat)
          have hj_3 := hjs1 (24 + (c1).toNat) (by omega)
          refine ro_V (As := [Value.ref (ad 1)]) (rest := []) (v := some (Value.int (iI (yLast R (R 1 0).toNat (J1 0 (24 + (c1).toNat)) (J1 1 (24 + (c1).toNat)) (J1 2 (24 + (c1).toNat)))))) ⟨hx, hb, hml, hown, hts⟩ (c_X8_last l g τ (aj (10 + (24 + (c1).toNat))) (J1 0 (24 + (c1).toNat)) (J1 1 (24 + (c1).toNat)) (J1 2 (24 + (c1).toNat)) ⟨by omega, by omega⟩ ⟨by omega, by omega⟩ ⟨by omega, by omega⟩ ad R hB (R 1 0).toNat (by omega) (by omega)) gX9_charter_X8_last cd_X8_last rfl rfl ⟨rfl, rfl⟩ ⟨Nat.le_of_ble_eq_true rfl, Nat.le_of_ble_eq_true rfl⟩ hK ((y1 hP_j (by omega)).app (hP_s.sub [1, 2, 3] rfl)) 0 rfl rfl rfl rfl hl rfl (Nat.le_of_ble_eq_true rfl) dX9_charter_116 ⟨Nat.le_of_ble_eq_true rfl, Nat.le_of_ble_eq_true rfl⟩ ?_
          refine tl_some ?_
          refine cv_i (y := iI (rCh R c1 (-1) 1)) (congrArg iI (by rw [e0, e1, e2]; exact (ch_eq hI c1 (-1)).2.1)) ?_
          exact u_iret hx hb hr hlocks hP hS ⟨Nat.le_of_ble_eq_true rfl, Nat.le_of_ble_eq_true rfl⟩ (⟨by rw [pChart, if_neg (by omega), if_neg (by omega)], (congrArg (fun z => some (Value.int (iI z))) (show (pChart R c1 w1).2 = rCh R c1 (-1) 1 from by rw [pChart, if_neg (by omega), if_neg (by omega), if_neg (by omega), if_neg (by omega)]; rw [show w1 - 1 = 1 from by omega])).symm, ⟨_, hjb1, hjs1, rfl⟩⟩) dX9_charter_119
        by_cases k_4_3 : w1 = 3
        · refine zi_tabl (tgt := 120) (x := w1) k_4_3 hx hb ⟨by decide, by decide⟩ (v := 3) dX9_charter_36 (by decide) (by decide) (off := 84) (by decide +kernel) (by decide) ?_
          refine lv_aload_n hx hb dX9_charter_120 rfl (lv_at hl 0 rfl) ?_
          refine va_get (D := g) (ci := 9) (v := Value.ref (aj 0)) (C := RX9) (T := TX9) (N := 7) hx hb hts in_X9_charter_X9 hown hK.1 hP_x 0 (rfl) rfl 1 (by decide) (hts _ (List.mem_of_getElem? (i := 1) rfl) : (Cond.fieldLink RX9 19 "CordSeals" "judge" "LCordSeals$Judge;").before _ s = true) (fun _ h9 => h9) rfl dX9_charter_121 ?_
          refine va_get (D := g) (ci := 1) (v := Value.ref (aj 2)) (C := RX1) (T := TX1) (N := 6) hx hb hts in_X9_charter_X1 hown hK.1 hP_j 0 (rfl) rfl 1 (by decide) (hts _ (List.mem_of_getElem? (i := 4) rfl) : (Cond.fieldLink RX9 238 "CordSeals$Judge" "ofCharters" "[LCordSeals$Years;").before _ s = true) (fun _ h9 => h9) rfl dX9_charter_124 ?_
          refine lv_iload_n hx hb dX9_charter_127 rfl (lv_at hl 1 rfl) ?_
          refine zq_ald hx hb hK hP_j 2 3 (C := RX8) (f := (fun i => some (aj (10 + (24 + i))))) (rfl) rfl ((c1).toNat) (by omega) (by omega) (by decide) (rfl) dX9_charter_128 ?_
          refine lv_aload_n hx hb dX9_charter_129 rfl (lv_at hl 0 rfl) ?_
          refine va_get (D := g) (ci := 9) (v := Value.ref (ad 0)) (C := RX9) (T := TX9) (N := 7) hx hb hts in_X9_charter_X9 hown hK.1 hP_x 0 (rfl) rfl 5 (by decide) (hts _ (List.mem_of_getElem? (i := 2) rfl) : (Cond.fieldLink RX9 41 "CordSeals" "state" "LCordSeals$State;").before _ s = true) (fun _ h9 => h9) rfl dX9_charter_130 ?_
          refine va_get (D := g) (ci := 6) (v := Value.ref (ad 1)) (C := RX6) (T := TX6) (N := 5) hx hb hts in_X9_charter_X6 hown hK.1 hP_s 0 (rfl) rfl 0 (by decide) (hts _ (List.mem_of_getElem? (i := 5) rfl) : (Cond.fieldLink RX9 93 "CordSeals$State" "reigns" "LCordSeals$Reigns;").before _ s = true) (fun _ h9 => h9) rfl dX9_charter_133 ?_
          have hj_0 := hjb1 0 (24 + (c1).toNat)
          have hj_1 := hjb1 1 (24 + (c1).toNat)
          have hj_2 := hjb1 2 (24 + (c1).toNat)
          have hj_3 := hjs1 (24 + (c1).toNat) (by omega)
          refine ro_V (As := [Value.ref (ad 1)]) (rest := []) (v := some (Value.int (iI (yCount R (R 1 0).toNat (J1 0 (24 + (c1).toNat)) (J1 1 (24 + (c1).toNat)) (J1 2 (24 + (c1).toNat)) ((R 1 0).toNat + 1))))) ⟨hx, hb, hml, hown, hts⟩ (c_X8_count l g τ (aj (10 + (24 + (c1).toNat))) (J1 0 (24 + (c1).toNat)) (J1 1 (24 + (c1).toNat)) (J1 2 (24 + (c1).toNat)) ⟨by omega, by omega⟩ ⟨by omega, by omega⟩ ⟨by omega, by omega⟩ ad R hB (R 1 0).toNat (by omega) (by omega)) gX9_charter_X8_count cd_X8_count rfl rfl ⟨rfl, rfl⟩ ⟨Nat.le_of_ble_eq_true rfl, Nat.le_of_ble_eq_true rfl⟩ hK ((y1 hP_j (by omega)).app (hP_s.sub [1, 2, 3] rfl)) 0 rfl rfl rfl rfl hl rfl (Nat.le_of_ble_eq_true rfl) dX9_charter_136 ⟨Nat.le_of_ble_eq_true rfl, Nat.le_of_ble_eq_true rfl⟩ ?_
          refine tl_some ?_
          refine cv_i (y := iI (rCh R c1 (-1) 2)) (congrArg iI (by rw [e0, e1, e2]; exact (ch_eq hI c1 (-1)).2.2)) ?_
          exact u_iret hx hb hr hlocks hP hS ⟨Nat.le_of_ble_eq_true rfl, Nat.le_of_ble_eq_true rfl⟩ (⟨by rw [pChart, if_neg (by omega), if_neg (by omega)], (congrArg (fun z => some (Value.int (iI z))) (show (pChart R c1 w1).2 = rCh R c1 (-1) 2 from by rw [pChart, if_neg (by omega), if_neg (by omega), if_neg (by omega), if_neg (by omega)]; rw [show w1 - 1 = 2 from by omega])).symm, ⟨_, hjb1, hjs1, rfl⟩⟩) dX9_charter_139
        refine zi_tablD (x := w1) (tgt := 140) ⟨by omega, by omega⟩ hx hb dX9_charter_36 (by omega) (by decide) ?_
        refine lv_aload_n hx hb dX9_charter_140 rfl (lv_at hl 0 rfl) ?_
        refine va_get (D := g) (ci := 9) (v := Value.ref (aj 0)) (C := RX9) (T := TX9) (N := 7) hx hb hts in_X9_charter_X9 hown hK.1 hP_x 0 (rfl) rfl 1 (by decide) (hts _ (List.mem_of_getElem? (i := 1) rfl) : (Cond.fieldLink RX9 19 "CordSeals" "judge" "LCordSeals$Judge;").before _ s = true) (fun _ h9 => h9) rfl dX9_charter_141 ?_
        refine lv_aload_n hx hb dX9_charter_144 rfl (lv_at hl 0 rfl) ?_
        refine va_get (D := g) (ci := 9) (v := Value.ref (ad 0)) (C := RX9) (T := TX9) (N := 7) hx hb hts in_X9_charter_X9 hown hK.1 hP_x 0 (rfl) rfl 5 (by decide) (hts _ (List.mem_of_getElem? (i := 2) rfl) : (Cond.fieldLink RX9 41 "CordSeals" "state" "LCordSeals$State;").before _ s = true) (fun _ h9 => h9) rfl dX9_charter_145 ?_
        refine lv_iload_n hx hb dX9_charter_148 rfl (lv_at hl 1 rfl) ?_
        refine ro_V (As := [Value.ref (ad 0), Value.int (iI c1)]) (rest := []) (v := some (Value.int (iI (cnt (jFC R J1 c1) (R 10 0).toNat)))) ⟨hx, hb, hml, hown, hts⟩ (c_X1_fakesOfCharter l g τ ad aj R J1 hI hjb1 c1 ⟨by omega, by omega⟩) gX9_charter_X1_fakesOfCharter cd_X1_fakesOfCharter rfl rfl ⟨rfl, rfl⟩ ⟨Nat.le_of_ble_eq_true rfl, Nat.le_of_ble_eq_true rfl⟩ hK (hP_j.app hP_s) 0 rfl rfl rfl rfl hl rfl (Nat.le_of_ble_eq_true rfl) dX9_charter_149 ⟨Nat.le_of_ble_eq_true rfl, Nat.le_of_ble_eq_true rfl⟩ ?_
        refine tl_some ?_
        refine cv_i (y := iI (rFo R c1 (R 10 0).toNat)) (congrArg iI (jFC_eq hI hse1 c1)) ?_
        exact u_iret hx hb hr hlocks hP hS ⟨Nat.le_of_ble_eq_true rfl, Nat.le_of_ble_eq_true rfl⟩ (⟨by rw [pChart, if_neg (by omega), if_neg (by omega)], (congrArg (fun z => some (Value.int (iI z))) (show (pChart R c1 w1).2 = rFo R c1 (R 10 0).toNat from by rw [pChart, if_neg (by omega), if_neg (by omega), if_neg (by omega), if_pos (by omega)])).symm, ⟨_, hjb1, hjs1, rfl⟩⟩) dX9_charter_152

theorem cd_X9_onShelf : cd yX9_onShelf 2 := by decide +kernel
theorem in_X9_onShelf_X5 : ∀ w ∈ wsX50, w ∈ wsX9_onShelf := by decide +kernel
theorem in_X9_onShelf_X6 : ∀ w ∈ wsX60, w ∈ wsX9_onShelf := by decide +kernel
theorem in_X9_onShelf_X9 : ∀ w ∈ wsX90, w ∈ wsX9_onShelf := by decide +kernel
set_option maxHeartbeats 1000000 in
set_option maxRecDepth 100000 in
theorem c_X9_onShelf (l : Launch) (hst : l.stackTraces = false) (g : va_G) (τ : Nat → ClassId) (x sl sv : Nat) (ta aj me ad bd : Nat → Nat) (R : Nat → Nat → Int) (hI : SI R) (h1 : Int) (rh1 : -2147483648 ≤ h1 ∧ h1 < 2147483648) (k1 : Int) (rk1 : -2147483648 ≤ k1 ∧ k1 < 2147483648)  : uMet l yX9_onShelf wsX9_onShelf { frames := 7, cells := 1, slots := 6, locals := 110 } g τ [Value.ref x, Value.int (iI h1), Value.int (iI k1)] ([xoC x (ta 0) (aj 0) (me 0) sl sv (ad 0) (bd 0)] ++ stW ad R τ) (fun v w => (pShelf R h1 k1).1 = 0 ∧ v = some (Value.int (iI (pShelf R h1 k1).2)) ∧ w = [xoC x (ta 0) (aj 0) (me 0) sl sv (ad 0) (bd 0)] ++ stW ad R τ) (fun E w => (((pShelf R h1 k1).1 = 1 ∧ E = "java/lang/IndexOutOfBoundsException") ∨ ((pShelf R h1 k1).1 = 2 ∧ E = "java/lang/IllegalArgumentException")) ∧ w = [xoC x (ta 0) (aj 0) (me 0) sl sv (ad 0) (bd 0)] ++ stW ad R τ) := by
  have hB := hI.hB
  have hr0 := hI.r
  have hd0 := hI.d
  have hs0 := hI.s
  have hN := hI.hN
  refine uMet_of (cc := cX9_onShelf) (maxL := 3) (ret := (some .int)) (lv := [(0, Value.ref x), (1, Value.int (iI h1)), (2, Value.int (iI k1))]) (by decide) rfl (Nat.le_of_ble_eq_true rfl) rfl ?_
  intro p e s m below meth c hx hb hr hml hts hown hlocks ht A H hP hD hS hK hZT hZU ls hl
  have hP_x := va_left hP
  have hP_s := va_right hP
  refine lv_iload_n hx hb dX9_onShelf_0 rfl (lv_at hl 1 rfl) ?_
  refine ro_S (As := [Value.int (iI h1)]) (rest := []) (v := some (Value.int (iI (zB (decide (0 ≤ h1 ∧ h1 < 6)))))) ⟨hx, hb, hml, hown, hts⟩ (c_X9_isShelf l g τ h1 ⟨by omega, by omega⟩) gX9_onShelf_X9_isShelf cd_X9_isShelf rfl ⟨rfl, rfl⟩ ⟨Nat.le_of_ble_eq_true rfl, Nat.le_of_ble_eq_true rfl⟩ hK (fun _ _ h => nomatch h) rfl hl rfl (Nat.le_of_ble_eq_true rfl) dX9_onShelf_1 ⟨Nat.le_of_ble_eq_true rfl, Nat.le_of_ble_eq_true rfl⟩ ?_
  refine tl_some ?_
  refine u_must (rest := []) ⟨hx, hb, hml, hown, hts⟩ (c_X9_mustExist l g τ) (x_X9_mustExist l hst g τ) gX9_onShelf_X9_mustExist cd_X9_mustExist rfl ⟨rfl, rfl⟩ ⟨rfl, rfl⟩ ⟨Nat.le_of_ble_eq_true rfl, Nat.le_of_ble_eq_true rfl⟩ ⟨Nat.le_of_ble_eq_true rfl, Nat.le_of_ble_eq_true rfl⟩ hK hZT hZU hP hD hS hl (decide (0 ≤ h1 ∧ h1 < 6)) rfl (Nat.le_of_ble_eq_true rfl) dX9_onShelf_4 ⟨Nat.le_of_ble_eq_true rfl, Nat.le_of_ble_eq_true rfl⟩ ⟨Nat.le_of_ble_eq_true rfl, Nat.le_of_ble_eq_true rfl⟩ (fun c_1 H locs q9 ce9 hP hD hS a1 a2 a3 => ?_) (fun c_1 => ?_)
  · have cd_c_1 := of_decide_eq_false c_1
    exact u_out ht hlocks a1 a2 a3 hP hS ⟨Nat.le_of_ble_eq_true rfl, Nat.le_of_ble_eq_true rfl⟩ (⟨Or.inl ⟨by rw [pShelf, if_pos (by omega)], rfl⟩, rfl⟩)
  · have cd_c_1 := of_decide_eq_true c_1
    refine lv_iload_n hx hb dX9_onShelf_7 rfl (lv_at hl 2 rfl) ?_
    refine zi_if_lt (tgt := 15) hx hb ⟨by omega, by omega⟩ dX9_onShelf_8 (by decide) (fun c_2 => ?_) (fun c_2 => ?_)
    · have _ := c_2
      refine lv_iconst (v := iI 0) hx hb dX9_onShelf_15 (by decide) ?_
      refine xr_S (As := [Value.int (iI 0)]) (rest := []) ⟨hx, hb, hml, hown, hts⟩ (x_X9_mustFit l hst g τ) gX9_onShelf_X9_mustFit cd_X9_mustFit rfl ⟨rfl, rfl⟩ ⟨Nat.le_of_ble_eq_true rfl, Nat.le_of_ble_eq_true rfl⟩ hK hZT hZU hP hD hS [] rfl rfl rfl hl rfl (Nat.le_of_ble_eq_true rfl) dX9_onShelf_16 ⟨Nat.le_of_ble_eq_true rfl, Nat.le_of_ble_eq_true rfl⟩ (fun w1 h => by rw [h]) (fun w1 H locs q9 ce9 hZ hP hD hS a1 a2 a3 => ?_)
      subst hZ
      have hP : va_P g vwCl ([xoC x (ta 0) (aj 0) (me 0) sl sv (ad 0) (bd 0)] ++ stW ad R τ) H := hP
      exact u_out ht hlocks a1 a2 a3 hP hS ⟨Nat.le_of_ble_eq_true rfl, Nat.le_of_ble_eq_true rfl⟩ (⟨Or.inr (⟨by rw [pShelf, if_neg (by omega), if_pos (by omega)], rfl⟩), rfl⟩)
    · have _ := c_2
      refine lv_iconst (v := iI 1) hx hb dX9_onShelf_11 (by decide) ?_
      refine lv_goto (tgt := 16) hx hb dX9_onShelf_12 (by decide) ?_
      refine ro_S (As := [Value.int (iI 1)]) (rest := []) (v := none) ⟨hx, hb, hml, hown, hts⟩ (c_X9_mustFit l g τ) gX9_onShelf_X9_mustFit cd_X9_mustFit rfl ⟨rfl, rfl⟩ ⟨Nat.le_of_ble_eq_true rfl, Nat.le_of_ble_eq_true rfl⟩ hK (fun _ _ h => nomatch h) rfl hl rfl (Nat.le_of_ble_eq_true rfl) dX9_onShelf_16 ⟨Nat.le_of_ble_eq_true rfl, Nat.le_of_ble_eq_true rfl⟩ ?_
      refine tl_none ?_
      have hm := hI.hN h1.toNat (by omega)
      refine lv_iload_n hx hb dX9_onShelf_19 rfl (lv_at hl 2 rfl) ?_
      refine lv_aload_n hx hb dX9_onShelf_20 rfl (lv_at hl 0 rfl) ?_
      refine va_get (D := g) (ci := 9) (v := Value.ref (ad 0)) (C := RX9) (T := TX9) (N := 7) hx hb hts in_X9_onShelf_X9 hown hK.1 hP_x 0 (rfl) rfl 5 (by decide) (hts _ (List.mem_of_getElem? (i := 1) rfl) : (Cond.fieldLink RX9 41 "CordSeals" "state" "LCordSeals$State;").before _ s = true) (fun _ h9 => h9) rfl dX9_onShelf_21 ?_
      refine va_get (D := g) (ci := 6) (v := Value.ref (ad 17)) (C := RX6) (T := TX6) (N := 5) hx hb hts in_X9_onShelf_X6 hown hK.1 hP_s 0 (rfl) rfl 3 (by decide) (hts _ (List.mem_of_getElem? (i := 2) rfl) : (Cond.fieldLink RX9 129 "CordSeals$State" "shelves" "LCordSeals$Shelves;").before _ s = true) (fun _ h9 => h9) rfl dX9_onShelf_24 ?_
      refine va_get (D := g) (ci := 5) (v := Value.ref (ad 18)) (C := RX5) (T := TX5) (N := 2) hx hb hts in_X9_onShelf_X5 hown hK.1 hP_s 17 (rfl) rfl 0 (by decide) (hts _ (List.mem_of_getElem? (i := 3) rfl) : (Cond.fieldLink RX9 249 "CordSeals$Shelves" "count" "[I").before _ s = true) (fun _ h9 => h9) rfl dX9_onShelf_27 ?_
      refine lv_iload_n hx hb dX9_onShelf_30 rfl (lv_at hl 1 rfl) ?_
      refine zi_ald hx hb hK hP_s 18 (f := (R 18)) (rfl) ((h1).toNat) (by omega) (by omega) (by decide) dX9_onShelf_31 ?_
      have hb_3 := hB 18 ((h1).toNat)
      refine zi_icmp_ge (tgt := 50) hx hb ⟨by omega, by omega⟩ ⟨by omega, by omega⟩ dX9_onShelf_32 (by decide) (fun c_4 => ?_) (fun c_4 => ?_)
      · have _ := c_4
        refine lv_iconst (v := iI (-1)) hx hb dX9_onShelf_50 (by decide) ?_
        exact u_iret hx hb hr hlocks hP hS ⟨Nat.le_of_ble_eq_true rfl, Nat.le_of_ble_eq_true rfl⟩ (⟨by rw [pShelf, if_neg (by omega), if_neg (by omega)], (congrArg (fun z => some (Value.int (iI z))) (show (pShelf R h1 k1).2 = (-1) from by rw [pShelf, if_neg (by omega), if_neg (by omega)]; first | exact if_pos (by omega) | exact if_neg (by omega))).symm, rfl⟩) dX9_onShelf_51
      · have _ := c_4
        refine lv_aload_n hx hb dX9_onShelf_35 rfl (lv_at hl 0 rfl) ?_
        refine va_get (D := g) (ci := 9) (v := Value.ref (ad 0)) (C := RX9) (T := TX9) (N := 7) hx hb hts in_X9_onShelf_X9 hown hK.1 hP_x 0 (rfl) rfl 5 (by decide) (hts _ (List.mem_of_getElem? (i := 1) rfl) : (Cond.fieldLink RX9 41 "CordSeals" "state" "LCordSeals$State;").before _ s = true) (fun _ h9 => h9) rfl dX9_onShelf_36 ?_
        refine va_get (D := g) (ci := 6) (v := Value.ref (ad 17)) (C := RX6) (T := TX6) (N := 5) hx hb hts in_X9_onShelf_X6 hown hK.1 hP_s 0 (rfl) rfl 3 (by decide) (hts _ (List.mem_of_getElem? (i := 2) rfl) : (Cond.fieldLink RX9 129 "CordSeals$State" "shelves" "LCordSeals$Shelves;").before _ s = true) (fun _ h9 => h9) rfl dX9_onShelf_39 ?_
        refine lv_iload_n hx hb dX9_onShelf_42 rfl (lv_at hl 1 rfl) ?_
        refine cv_i (y := iI ((h1.toNat : Nat) : Int)) (congrArg iI (by omega)) ?_
        refine lv_iload_n hx hb dX9_onShelf_43 rfl (lv_at hl 2 rfl) ?_
        refine cv_i (y := iI ((k1.toNat : Nat) : Int)) (congrArg iI (by omega)) ?_
        refine ro_V (As := [Value.int (iI ((h1.toNat : Nat) : Int)), Value.int (iI ((k1.toNat : Nat) : Int))]) (rest := []) (v := some (Value.int (iI (R 19 (h1.toNat * 6 + k1.toNat))))) ⟨hx, hb, hml, hown, hts⟩ (c_X5_at l g τ ad R h1.toNat k1.toNat (by omega) (by omega)) gX9_onShelf_X5_at cd_X5_at rfl rfl ⟨rfl, rfl⟩ ⟨Nat.le_of_ble_eq_true rfl, Nat.le_of_ble_eq_true rfl⟩ hK (hP_s.sub [17, 18, 19] rfl) 0 rfl rfl rfl rfl hl rfl (Nat.le_of_ble_eq_true rfl) dX9_onShelf_44 ⟨Nat.le_of_ble_eq_true rfl, Nat.le_of_ble_eq_true rfl⟩ ?_
        refine tl_some ?_
        have hb_5 := hB 19 (h1.toNat * 6 + k1.toNat)
        refine lv_goto (tgt := 51) hx hb dX9_onShelf_47 (by decide) ?_
        exact u_iret hx hb hr hlocks hP hS ⟨Nat.le_of_ble_eq_true rfl, Nat.le_of_ble_eq_true rfl⟩ (⟨by rw [pShelf, if_neg (by omega), if_neg (by omega)], (congrArg (fun z => some (Value.int (iI z))) (show (pShelf R h1 k1).2 = R 19 (h1.toNat * 6 + k1.toNat) from by rw [pShelf, if_neg (by omega), if_neg (by omega)]; first | exact if_pos (by omega) | exact if_neg (by omega))).symm, rfl⟩) dX9_onShelf_51

theorem cd_X9_inYear : cd yX9_inYear 1 := by decide +kernel
theorem in_X9_inYear_X9 : ∀ w ∈ wsX90, w ∈ wsX9_inYear := by decide +kernel
set_option maxHeartbeats 1000000 in
set_option maxRecDepth 100000 in
theorem c_X9_inYear (l : Launch) (hst : l.stackTraces = false) (g : va_G) (τ : Nat → ClassId) (x sl sv : Nat) (ta aj me ad bd : Nat → Nat) (R : Nat → Nat → Int) (hI : SI R) (J : Nat → Nat → Int) (hjb : HB J) (hjs : JSp J) (yy : Int) (ryy : -2147483648 ≤ yy ∧ yy < 2147483648)  : uMet l yX9_inYear wsX9_inYear { frames := 7, cells := 1, slots := 6, locals := 110 } g τ [Value.ref x, Value.int (iI yy)] ([xoC x (ta 0) (aj 0) (me 0) sl sv (ad 0) (bd 0)] ++ (stW ad R τ ++ juW aj J τ)) (fun v w => (pIn R yy).1 = 0 ∧ v = some (Value.int (iI (pIn R yy).2)) ∧ ∃ J2, HB J2 ∧ JSp J2 ∧ w = [xoC x (ta 0) (aj 0) (me 0) sl sv (ad 0) (bd 0)] ++ (stW ad R τ ++ juW aj J2 τ)) (fun E w => (((pIn R yy).1 = 1 ∧ E = "java/lang/IllegalArgumentException")) ∧ w = [xoC x (ta 0) (aj 0) (me 0) sl sv (ad 0) (bd 0)] ++ (stW ad R τ ++ juW aj J τ)) := by
  have hB := hI.hB
  have hr0 := hI.r
  have hd0 := hI.d
  have hs0 := hI.s
  have hN := hI.hN
  refine uMet_of (cc := cX9_inYear) (maxL := 2) (ret := (some .int)) (lv := [(0, Value.ref x), (1, Value.int (iI yy))]) (by decide) rfl (Nat.le_of_ble_eq_true rfl) rfl ?_
  intro p e s m below meth c hx hb hr hml hts hown hlocks ht A H hP hD hS hK hZT hZU ls hl
  have hP_x := va_left hP
  have hP_s := va_left (va_right hP)
  have hP_j := va_right (va_right hP)
  refine lv_iload_n hx hb dX9_inYear_0 rfl (lv_at hl 1 rfl) ?_
  refine ro_S (As := [Value.int (iI yy)]) (rest := []) (v := some (Value.int (iI (zB (decide (1000 ≤ yy ∧ yy ≤ 1999)))))) ⟨hx, hb, hml, hown, hts⟩ (c_X9_isYear l g τ yy ⟨by omega, by omega⟩) gX9_inYear_X9_isYear cd_X9_isYear rfl ⟨rfl, rfl⟩ ⟨Nat.le_of_ble_eq_true rfl, Nat.le_of_ble_eq_true rfl⟩ hK (fun _ _ h => nomatch h) rfl hl rfl (Nat.le_of_ble_eq_true rfl) dX9_inYear_1 ⟨Nat.le_of_ble_eq_true rfl, Nat.le_of_ble_eq_true rfl⟩ ?_
  refine tl_some ?_
  refine u_must (rest := []) ⟨hx, hb, hml, hown, hts⟩ (c_X9_mustFit l g τ) (x_X9_mustFit l hst g τ) gX9_inYear_X9_mustFit cd_X9_mustFit rfl ⟨rfl, rfl⟩ ⟨rfl, rfl⟩ ⟨Nat.le_of_ble_eq_true rfl, Nat.le_of_ble_eq_true rfl⟩ ⟨Nat.le_of_ble_eq_true rfl, Nat.le_of_ble_eq_true rfl⟩ hK hZT hZU hP hD hS hl (decide (1000 ≤ yy ∧ yy ≤ 1999)) rfl (Nat.le_of_ble_eq_true rfl) dX9_inYear_4 ⟨Nat.le_of_ble_eq_true rfl, Nat.le_of_ble_eq_true rfl⟩ ⟨Nat.le_of_ble_eq_true rfl, Nat.le_of_ble_eq_true rfl⟩ (fun c_1 H locs q9 ce9 hP hD hS a1 a2 a3 => ?_) (fun c_1 => ?_)
  · have cd_c_1 := of_decide_eq_false c_1
    exact u_out ht hlocks a1 a2 a3 hP hS ⟨Nat.le_of_ble_eq_true rfl, Nat.le_of_ble_eq_true rfl⟩ (⟨⟨by rw [pIn, if_pos (by omega)], rfl⟩, rfl⟩)
  · have cd_c_1 := of_decide_eq_true c_1
    refine lv_aload_n hx hb dX9_inYear_7 rfl (lv_at hl 0 rfl) ?_
    refine va_get (D := g) (ci := 9) (v := Value.ref (aj 0)) (C := RX9) (T := TX9) (N := 7) hx hb hts in_X9_inYear_X9 hown hK.1 hP_x 0 (rfl) rfl 1 (by decide) (hts _ (List.mem_of_getElem? (i := 1) rfl) : (Cond.fieldLink RX9 19 "CordSeals" "judge" "LCordSeals$Judge;").before _ s = true) (fun _ h9 => h9) rfl dX9_inYear_8 ?_
    refine lv_aload_n hx hb dX9_inYear_11 rfl (lv_at hl 0 rfl) ?_
    refine va_get (D := g) (ci := 9) (v := Value.ref (ad 0)) (C := RX9) (T := TX9) (N := 7) hx hb hts in_X9_inYear_X9 hown hK.1 hP_x 0 (rfl) rfl 5 (by decide) (hts _ (List.mem_of_getElem? (i := 2) rfl) : (Cond.fieldLink RX9 41 "CordSeals" "state" "LCordSeals$State;").before _ s = true) (fun _ h9 => h9) rfl dX9_inYear_12 ?_
    refine rq_V (As := [Value.ref (ad 0)]) (rest := []) ⟨hx, hb, hml, hown, hts⟩ (c_X1_look l g τ ad aj R J hI hjb hjs) gX9_inYear_X1_look cd_X1_look rfl rfl ⟨rfl, rfl⟩ ⟨Nat.le_of_ble_eq_true rfl, Nat.le_of_ble_eq_true rfl⟩ hK hP hD hS (pm3_21 _ _ _) 0 rfl rfl rfl rfl hl rfl (Nat.le_of_ble_eq_true rfl) dX9_inYear_15 ⟨Nat.le_of_ble_eq_true rfl, Nat.le_of_ble_eq_true rfl⟩ (fun v w h => by rw [h.2]; exact f_ju aj ad _ _ _ _) (fun v w1 H locs hZ hP hD hS => ?_)
    obtain ⟨rfl, rfl⟩ := hZ
    have hP : va_P g vwCl ([xoC x (ta 0) (aj 0) (me 0) sl sv (ad 0) (bd 0)] ++ (stW ad R τ ++ juW aj (seeJ R J) τ)) H := hP.pm (pm3_21 _ _ _).symm
    have hD : va_D A ([xoC x (ta 0) (aj 0) (me 0) sl sv (ad 0) (bd 0)] ++ (stW ad R τ ++ juW aj (seeJ R J) τ)) := hD.pm (pm3_21 _ _ _).symm
    obtain ⟨J1, hjb1, hjs1, hse1, hje⟩ : ∃ J1, HB J1 ∧ JSp J1 ∧ SEE R J1 6 ∧ seeJ R J = J1 := ⟨_, (see_ok hI hjb hjs).1, (see_ok hI hjb hjs).2, SEE_see hI J, rfl⟩
    rw [hje] at hP hD
    have hP_x := va_left hP
    have hP_s := va_left (va_right hP)
    have hP_j := va_right (va_right hP)
    refine tl_none ?_
    refine lv_aload_n hx hb dX9_inYear_18 rfl (lv_at hl 0 rfl) ?_
    refine va_get (D := g) (ci := 9) (v := Value.ref (aj 0)) (C := RX9) (T := TX9) (N := 7) hx hb hts in_X9_inYear_X9 hown hK.1 hP_x 0 (rfl) rfl 1 (by decide) (hts _ (List.mem_of_getElem? (i := 1) rfl) : (Cond.fieldLink RX9 19 "CordSeals" "judge" "LCordSeals$Judge;").before _ s = true) (fun _ h9 => h9) rfl dX9_inYear_19 ?_
    refine lv_aload_n hx hb dX9_inYear_22 rfl (lv_at hl 0 rfl) ?_
    refine va_get (D := g) (ci := 9) (v := Value.ref (ad 0)) (C := RX9) (T := TX9) (N := 7) hx hb hts in_X9_inYear_X9 hown hK.1 hP_x 0 (rfl) rfl 5 (by decide) (hts _ (List.mem_of_getElem? (i := 2) rfl) : (Cond.fieldLink RX9 41 "CordSeals" "state" "LCordSeals$State;").before _ s = true) (fun _ h9 => h9) rfl dX9_inYear_23 ?_
    refine lv_iload_n hx hb dX9_inYear_26 rfl (lv_at hl 1 rfl) ?_
    refine ro_V (As := [Value.ref (ad 0), Value.int (iI yy)]) (rest := []) (v := some (Value.int (iI (cnt (jG R J1 yy) (R 10 0).toNat)))) ⟨hx, hb, hml, hown, hts⟩ (c_X1_genuineIn l g τ ad aj R J1 hI hjb1 hjs1 yy ⟨by omega, by omega⟩) gX9_inYear_X1_genuineIn cd_X1_genuineIn rfl rfl ⟨rfl, rfl⟩ ⟨Nat.le_of_ble_eq_true rfl, Nat.le_of_ble_eq_true rfl⟩ hK (hP_j.app hP_s) 0 rfl rfl rfl rfl hl rfl (Nat.le_of_ble_eq_true rfl) dX9_inYear_27 ⟨Nat.le_of_ble_eq_true rfl, Nat.le_of_ble_eq_true rfl⟩ ?_
    refine tl_some ?_
    refine cv_i (y := iI (rIn R yy (R 10 0).toNat)) (congrArg iI (jG_eq hI hse1 ⟨by omega, by omega⟩)) ?_
    exact u_iret hx hb hr hlocks hP hS ⟨Nat.le_of_ble_eq_true rfl, Nat.le_of_ble_eq_true rfl⟩ (⟨by rw [pIn, if_neg (by omega)], (congrArg (fun z => some (Value.int (iI z))) (show (pIn R yy).2 = rIn R yy (R 10 0).toNat from by rw [pIn, if_neg (by omega)])).symm, ⟨_, hjb1, hjs1, rfl⟩⟩) dX9_inYear_30

theorem cd_X9_older : cd yX9_older 2 := by decide +kernel
theorem in_X9_older_X6 : ∀ w ∈ wsX60, w ∈ wsX9_older := by decide +kernel
theorem in_X9_older_X9 : ∀ w ∈ wsX90, w ∈ wsX9_older := by decide +kernel
set_option maxHeartbeats 1000000 in
set_option maxRecDepth 100000 in
theorem c_X9_older (l : Launch) (hst : l.stackTraces = false) (g : va_G) (τ : Nat → ClassId) (x sl sv : Nat) (ta aj me ad bd : Nat → Nat) (R : Nat → Nat → Int) (hI : SI R) (J : Nat → Nat → Int) (hjb : HB J) (hjs : JSp J) (z1 : Int) (rz1 : -2147483648 ≤ z1 ∧ z1 < 2147483648) (t1 : Int) (rt1 : -2147483648 ≤ t1 ∧ t1 < 2147483648)  : uMet l yX9_older wsX9_older { frames := 7, cells := 1, slots := 6, locals := 110 } g τ [Value.ref x, Value.int (iI z1), Value.int (iI t1)] ([xoC x (ta 0) (aj 0) (me 0) sl sv (ad 0) (bd 0)] ++ (stW ad R τ ++ juW aj J τ)) (fun v w => (pOlder R z1 t1).1 = 0 ∧ v = some (Value.int (iI (pOlder R z1 t1).2)) ∧ ∃ J2, HB J2 ∧ JSp J2 ∧ w = [xoC x (ta 0) (aj 0) (me 0) sl sv (ad 0) (bd 0)] ++ (stW ad R τ ++ juW aj J2 τ)) (fun E w => (((pOlder R z1 t1).1 = 1 ∧ E = "java/lang/IndexOutOfBoundsException")) ∧ w = [xoC x (ta 0) (aj 0) (me 0) sl sv (ad 0) (bd 0)] ++ (stW ad R τ ++ juW aj J τ)) := by
  have hB := hI.hB
  have hr0 := hI.r
  have hd0 := hI.d
  have hs0 := hI.s
  have hN := hI.hN
  refine uMet_of (cc := cX9_older) (maxL := 3) (ret := (some .int)) (lv := [(0, Value.ref x), (1, Value.int (iI z1)), (2, Value.int (iI t1))]) (by decide) rfl (Nat.le_of_ble_eq_true rfl) rfl ?_
  intro p e s m below meth c hx hb hr hml hts hown hlocks ht A H hP hD hS hK hZT hZU ls hl
  have hP_x := va_left hP
  have hP_s := va_left (va_right hP)
  have hP_j := va_right (va_right hP)
  refine lv_aload_n hx hb dX9_older_0 rfl (lv_at hl 0 rfl) ?_
  refine va_get (D := g) (ci := 9) (v := Value.ref (ad 0)) (C := RX9) (T := TX9) (N := 7) hx hb hts in_X9_older_X9 hown hK.1 hP_x 0 (rfl) rfl 5 (by decide) (hts _ (List.mem_of_getElem? (i := 1) rfl) : (Cond.fieldLink RX9 41 "CordSeals" "state" "LCordSeals$State;").before _ s = true) (fun _ h9 => h9) rfl dX9_older_1 ?_
  refine va_get (D := g) (ci := 6) (v := Value.ref (ad 10)) (C := RX6) (T := TX6) (N := 5) hx hb hts in_X9_older_X6 hown hK.1 hP_s 0 (rfl) rfl 2 (by decide) (hts _ (List.mem_of_getElem? (i := 2) rfl) : (Cond.fieldLink RX9 109 "CordSeals$State" "seals" "LCordSeals$Seals;").before _ s = true) (fun _ h9 => h9) rfl dX9_older_4 ?_
  refine lv_iload_n hx hb dX9_older_7 rfl (lv_at hl 1 rfl) ?_
  refine ro_V (As := [Value.int (iI z1)]) (rest := []) (v := some (Value.int (iI (zB (dHas (R 10 0) z1))))) ⟨hx, hb, hml, hown, hts⟩ (c_X4_has l g τ ad R hB z1 ⟨by omega, by omega⟩) gX9_older_X4_has cd_X4_has rfl rfl ⟨rfl, rfl⟩ ⟨Nat.le_of_ble_eq_true rfl, Nat.le_of_ble_eq_true rfl⟩ hK (hP_s.sub [10, 11, 12, 13, 14, 15, 16] rfl) 0 rfl rfl rfl rfl hl rfl (Nat.le_of_ble_eq_true rfl) dX9_older_8 ⟨Nat.le_of_ble_eq_true rfl, Nat.le_of_ble_eq_true rfl⟩ ?_
  refine tl_some ?_
  refine zb_if_eq (tgt := 32) hx hb dX9_older_11 (by decide) (fun c_1 => ?_) (fun c_1 => ?_)
  · have _ := c_1
    have hh : z1 < 0 ∨ R 10 0 ≤ z1 := by have := c_1; simp [dHas] at this; omega
    refine lv_iconst (v := iI 0) hx hb dX9_older_32 (by decide) ?_
    refine xr_S (As := [Value.int (iI 0)]) (rest := []) ⟨hx, hb, hml, hown, hts⟩ (x_X9_mustExist l hst g τ) gX9_older_X9_mustExist cd_X9_mustExist rfl ⟨rfl, rfl⟩ ⟨Nat.le_of_ble_eq_true rfl, Nat.le_of_ble_eq_true rfl⟩ hK hZT hZU hP hD hS [] rfl rfl rfl hl rfl (Nat.le_of_ble_eq_true rfl) dX9_older_33 ⟨Nat.le_of_ble_eq_true rfl, Nat.le_of_ble_eq_true rfl⟩ (fun w1 h => by rw [h]) (fun w1 H locs q9 ce9 hZ hP hD hS a1 a2 a3 => ?_)
    subst hZ
    have hP : va_P g vwCl ([xoC x (ta 0) (aj 0) (me 0) sl sv (ad 0) (bd 0)] ++ (stW ad R τ ++ juW aj J τ)) H := hP
    exact u_out ht hlocks a1 a2 a3 hP hS ⟨Nat.le_of_ble_eq_true rfl, Nat.le_of_ble_eq_true rfl⟩ (⟨⟨by rw [pOlder, if_pos (by omega)], rfl⟩, rfl⟩)
  · have _ := c_1
    have hh : 0 ≤ z1 ∧ z1 < R 10 0 := by simpa [dHas] using c_1
    refine lv_aload_n hx hb dX9_older_14 rfl (lv_at hl 0 rfl) ?_
    refine va_get (D := g) (ci := 9) (v := Value.ref (ad 0)) (C := RX9) (T := TX9) (N := 7) hx hb hts in_X9_older_X9 hown hK.1 hP_x 0 (rfl) rfl 5 (by decide) (hts _ (List.mem_of_getElem? (i := 1) rfl) : (Cond.fieldLink RX9 41 "CordSeals" "state" "LCordSeals$State;").before _ s = true) (fun _ h9 => h9) rfl dX9_older_15 ?_
    refine va_get (D := g) (ci := 6) (v := Value.ref (ad 10)) (C := RX6) (T := TX6) (N := 5) hx hb hts in_X9_older_X6 hown hK.1 hP_s 0 (rfl) rfl 2 (by decide) (hts _ (List.mem_of_getElem? (i := 2) rfl) : (Cond.fieldLink RX9 109 "CordSeals$State" "seals" "LCordSeals$Seals;").before _ s = true) (fun _ h9 => h9) rfl dX9_older_18 ?_
    refine lv_iload_n hx hb dX9_older_21 rfl (lv_at hl 2 rfl) ?_
    refine ro_V (As := [Value.int (iI t1)]) (rest := []) (v := some (Value.int (iI (zB (dHas (R 10 0) t1))))) ⟨hx, hb, hml, hown, hts⟩ (c_X4_has l g τ ad R hB t1 ⟨by omega, by omega⟩) gX9_older_X4_has cd_X4_has rfl rfl ⟨rfl, rfl⟩ ⟨Nat.le_of_ble_eq_true rfl, Nat.le_of_ble_eq_true rfl⟩ hK (hP_s.sub [10, 11, 12, 13, 14, 15, 16] rfl) 0 rfl rfl rfl rfl hl rfl (Nat.le_of_ble_eq_true rfl) dX9_older_22 ⟨Nat.le_of_ble_eq_true rfl, Nat.le_of_ble_eq_true rfl⟩ ?_
    refine tl_some ?_
    refine zb_if_eq (tgt := 32) hx hb dX9_older_25 (by decide) (fun c_2 => ?_) (fun c_2 => ?_)
    · have _ := c_2
      have hh2 : t1 < 0 ∨ R 10 0 ≤ t1 := by have := c_2; simp [dHas] at this; omega
      refine lv_iconst (v := iI 0) hx hb dX9_older_32 (by decide) ?_
      refine xr_S (As := [Value.int (iI 0)]) (rest := []) ⟨hx, hb, hml, hown, hts⟩ (x_X9_mustExist l hst g τ) gX9_older_X9_mustExist cd_X9_mustExist rfl ⟨rfl, rfl⟩ ⟨Nat.le_of_ble_eq_true rfl, Nat.le_of_ble_eq_true rfl⟩ hK hZT hZU hP hD hS [] rfl rfl rfl hl rfl (Nat.le_of_ble_eq_true rfl) dX9_older_33 ⟨Nat.le_of_ble_eq_true rfl, Nat.le_of_ble_eq_true rfl⟩ (fun w1 h => by rw [h]) (fun w1 H locs q9 ce9 hZ hP hD hS a1 a2 a3 => ?_)
      subst hZ
      have hP : va_P g vwCl ([xoC x (ta 0) (aj 0) (me 0) sl sv (ad 0) (bd 0)] ++ (stW ad R τ ++ juW aj J τ)) H := hP
      exact u_out ht hlocks a1 a2 a3 hP hS ⟨Nat.le_of_ble_eq_true rfl, Nat.le_of_ble_eq_true rfl⟩ (⟨⟨by rw [pOlder, if_pos (by omega)], rfl⟩, rfl⟩)
    · have _ := c_2
      have hh2 : 0 ≤ t1 ∧ t1 < R 10 0 := by simpa [dHas] using c_2
      refine lv_iconst (v := iI 1) hx hb dX9_older_28 (by decide) ?_
      refine lv_goto (tgt := 33) hx hb dX9_older_29 (by decide) ?_
      refine ro_S (As := [Value.int (iI 1)]) (rest := []) (v := none) ⟨hx, hb, hml, hown, hts⟩ (c_X9_mustExist l g τ) gX9_older_X9_mustExist cd_X9_mustExist rfl ⟨rfl, rfl⟩ ⟨Nat.le_of_ble_eq_true rfl, Nat.le_of_ble_eq_true rfl⟩ hK (fun _ _ h => nomatch h) rfl hl rfl (Nat.le_of_ble_eq_true rfl) dX9_older_33 ⟨Nat.le_of_ble_eq_true rfl, Nat.le_of_ble_eq_true rfl⟩ ?_
      refine tl_none ?_
      refine lv_aload_n hx hb dX9_older_36 rfl (lv_at hl 0 rfl) ?_
      refine va_get (D := g) (ci := 9) (v := Value.ref (aj 0)) (C := RX9) (T := TX9) (N := 7) hx hb hts in_X9_older_X9 hown hK.1 hP_x 0 (rfl) rfl 1 (by decide) (hts _ (List.mem_of_getElem? (i := 3) rfl) : (Cond.fieldLink RX9 19 "CordSeals" "judge" "LCordSeals$Judge;").before _ s = true) (fun _ h9 => h9) rfl dX9_older_37 ?_
      refine lv_aload_n hx hb dX9_older_40 rfl (lv_at hl 0 rfl) ?_
      refine va_get (D := g) (ci := 9) (v := Value.ref (ad 0)) (C := RX9) (T := TX9) (N := 7) hx hb hts in_X9_older_X9 hown hK.1 hP_x 0 (rfl) rfl 5 (by decide) (hts _ (List.mem_of_getElem? (i := 1) rfl) : (Cond.fieldLink RX9 41 "CordSeals" "state" "LCordSeals$State;").before _ s = true) (fun _ h9 => h9) rfl dX9_older_41 ?_
      refine rq_V (As := [Value.ref (ad 0)]) (rest := []) ⟨hx, hb, hml, hown, hts⟩ (c_X1_look l g τ ad aj R J hI hjb hjs) gX9_older_X1_look cd_X1_look rfl rfl ⟨rfl, rfl⟩ ⟨Nat.le_of_ble_eq_true rfl, Nat.le_of_ble_eq_true rfl⟩ hK hP hD hS (pm3_21 _ _ _) 0 rfl rfl rfl rfl hl rfl (Nat.le_of_ble_eq_true rfl) dX9_older_44 ⟨Nat.le_of_ble_eq_true rfl, Nat.le_of_ble_eq_true rfl⟩ (fun v w h => by rw [h.2]; exact f_ju aj ad _ _ _ _) (fun v w1 H locs hZ hP hD hS => ?_)
      obtain ⟨rfl, rfl⟩ := hZ
      have hP : va_P g vwCl ([xoC x (ta 0) (aj 0) (me 0) sl sv (ad 0) (bd 0)] ++ (stW ad R τ ++ juW aj (seeJ R J) τ)) H := hP.pm (pm3_21 _ _ _).symm
      have hD : va_D A ([xoC x (ta 0) (aj 0) (me 0) sl sv (ad 0) (bd 0)] ++ (stW ad R τ ++ juW aj (seeJ R J) τ)) := hD.pm (pm3_21 _ _ _).symm
      obtain ⟨J1, hjb1, hjs1, hse1, hje⟩ : ∃ J1, HB J1 ∧ JSp J1 ∧ SEE R J1 6 ∧ seeJ R J = J1 := ⟨_, (see_ok hI hjb hjs).1, (see_ok hI hjb hjs).2, SEE_see hI J, rfl⟩
      rw [hje] at hP hD
      have hP_x := va_left hP
      have hP_s := va_left (va_right hP)
      have hP_j := va_right (va_right hP)
      refine tl_none ?_
      have ho := older_eq hI hse1 (s := z1.toNat) (t := t1.toNat) (by omega) (by omega)
      rw [show ((z1.toNat : Nat) : Int) = z1 from by omega, show ((t1.toNat : Nat) : Int) = t1 from by omega] at ho
      refine lv_aload_n hx hb dX9_older_47 rfl (lv_at hl 0 rfl) ?_
      refine va_get (D := g) (ci := 9) (v := Value.ref (aj 0)) (C := RX9) (T := TX9) (N := 7) hx hb hts in_X9_older_X9 hown hK.1 hP_x 0 (rfl) rfl 1 (by decide) (hts _ (List.mem_of_getElem? (i := 3) rfl) : (Cond.fieldLink RX9 19 "CordSeals" "judge" "LCordSeals$Judge;").before _ s = true) (fun _ h9 => h9) rfl dX9_older_48 ?_
      refine lv_aload_n hx hb dX9_older_51 rfl (lv_at hl 0 rfl) ?_
      refine va_get (D := g) (ci := 9) (v := Value.ref (ad 0)) (C := RX9) (T := TX9) (N := 7) hx hb hts in_X9_older_X9 hown hK.1 hP_x 0 (rfl) rfl 5 (by decide) (hts _ (List.mem_of_getElem? (i := 1) rfl) : (Cond.fieldLink RX9 41 "CordSeals" "state" "LCordSeals$State;").before _ s = true) (fun _ h9 => h9) rfl dX9_older_52 ?_
      refine lv_iload_n hx hb dX9_older_55 rfl (lv_at hl 1 rfl) ?_
      refine cv_i (y := iI ((z1.toNat : Nat) : Int)) (congrArg iI (by omega)) ?_
      refine lv_iload_n hx hb dX9_older_56 rfl (lv_at hl 2 rfl) ?_
      refine cv_i (y := iI ((t1.toNat : Nat) : Int)) (congrArg iI (by omega)) ?_
      refine ro_V (As := [Value.ref (ad 0), Value.int (iI ((z1.toNat : Nat) : Int)), Value.int (iI ((t1.toNat : Nat) : Int))]) (rest := []) (v := some (Value.int (iI (zB (jAh R J1 z1.toNat t1.toNat))))) ⟨hx, hb, hml, hown, hts⟩ (c_X1_isAhead l g τ ad aj R J1 hI hjb1 hjs1 z1.toNat t1.toNat (by omega) (by omega)) gX9_older_X1_isAhead cd_X1_isAhead rfl rfl ⟨rfl, rfl⟩ ⟨Nat.le_of_ble_eq_true rfl, Nat.le_of_ble_eq_true rfl⟩ hK (hP_j.app hP_s) 0 rfl rfl rfl rfl hl rfl (Nat.le_of_ble_eq_true rfl) dX9_older_57 ⟨Nat.le_of_ble_eq_true rfl, Nat.le_of_ble_eq_true rfl⟩ ?_
      refine tl_some ?_
      refine zb_if_eq (tgt := 65) hx hb dX9_older_60 (by decide) (fun c_3 => ?_) (fun c_3 => ?_)
      · have _ := c_3
        refine lv_aload_n hx hb dX9_older_65 rfl (lv_at hl 0 rfl) ?_
        refine va_get (D := g) (ci := 9) (v := Value.ref (aj 0)) (C := RX9) (T := TX9) (N := 7) hx hb hts in_X9_older_X9 hown hK.1 hP_x 0 (rfl) rfl 1 (by decide) (hts _ (List.mem_of_getElem? (i := 3) rfl) : (Cond.fieldLink RX9 19 "CordSeals" "judge" "LCordSeals$Judge;").before _ s = true) (fun _ h9 => h9) rfl dX9_older_66 ?_
        refine lv_aload_n hx hb dX9_older_69 rfl (lv_at hl 0 rfl) ?_
        refine va_get (D := g) (ci := 9) (v := Value.ref (ad 0)) (C := RX9) (T := TX9) (N := 7) hx hb hts in_X9_older_X9 hown hK.1 hP_x 0 (rfl) rfl 5 (by decide) (hts _ (List.mem_of_getElem? (i := 1) rfl) : (Cond.fieldLink RX9 41 "CordSeals" "state" "LCordSeals$State;").before _ s = true) (fun _ h9 => h9) rfl dX9_older_70 ?_
        refine lv_iload_n hx hb dX9_older_73 rfl (lv_at hl 2 rfl) ?_
        refine cv_i (y := iI ((t1.toNat : Nat) : Int)) (congrArg iI (by omega)) ?_
        refine lv_iload_n hx hb dX9_older_74 rfl (lv_at hl 1 rfl) ?_
        refine cv_i (y := iI ((z1.toNat : Nat) : Int)) (congrArg iI (by omega)) ?_
        refine ro_V (As := [Value.ref (ad 0), Value.int (iI ((t1.toNat : Nat) : Int)), Value.int (iI ((z1.toNat : Nat) : Int))]) (rest := []) (v := some (Value.int (iI (zB (jAh R J1 t1.toNat z1.toNat))))) ⟨hx, hb, hml, hown, hts⟩ (c_X1_isAhead l g τ ad aj R J1 hI hjb1 hjs1 t1.toNat z1.toNat (by omega) (by omega)) gX9_older_X1_isAhead cd_X1_isAhead rfl rfl ⟨rfl, rfl⟩ ⟨Nat.le_of_ble_eq_true rfl, Nat.le_of_ble_eq_true rfl⟩ hK (hP_j.app hP_s) 0 rfl rfl rfl rfl hl rfl (Nat.le_of_ble_eq_true rfl) dX9_older_75 ⟨Nat.le_of_ble_eq_true rfl, Nat.le_of_ble_eq_true rfl⟩ ?_
        refine tl_some ?_
        refine zb_if_eq (tgt := 85) hx hb dX9_older_78 (by decide) (fun c_4 => ?_) (fun c_4 => ?_)
        · have _ := c_4
          refine lv_iconst (v := iI (-1)) hx hb dX9_older_85 (by decide) ?_
          exact u_iret hx hb hr hlocks hP hS ⟨Nat.le_of_ble_eq_true rfl, Nat.le_of_ble_eq_true rfl⟩ (⟨by rw [← ho], by rw [← ho, if_neg (by simp only [*]; decide), if_neg (by simp only [*]; decide)], _, hjb1, hjs1, rfl⟩) dX9_older_86
        · have _ := c_4
          refine lv_iload_n hx hb dX9_older_81 rfl (lv_at hl 2 rfl) ?_
          refine lv_goto (tgt := 86) hx hb dX9_older_82 (by decide) ?_
          exact u_iret hx hb hr hlocks hP hS ⟨Nat.le_of_ble_eq_true rfl, Nat.le_of_ble_eq_true rfl⟩ (⟨by rw [← ho], by rw [← ho, if_neg (by simp only [*]; decide), if_pos (by assumption)], _, hjb1, hjs1, rfl⟩) dX9_older_86
      · have _ := c_3
        refine lv_iload_n hx hb dX9_older_63 rfl (lv_at hl 1 rfl) ?_
        exact u_iret hx hb hr hlocks hP hS ⟨Nat.le_of_ble_eq_true rfl, Nat.le_of_ble_eq_true rfl⟩ (⟨by rw [← ho], by rw [← ho, if_pos (by assumption)], _, hjb1, hjs1, rfl⟩) dX9_older_64

theorem cd_X9_decides : cd yX9_decides 1 := by decide +kernel
theorem in_X9_decides_X9 : ∀ w ∈ wsX90, w ∈ wsX9_decides := by decide +kernel
set_option maxHeartbeats 1000000 in
set_option maxRecDepth 100000 in
theorem c_X9_decides (l : Launch) (hst : l.stackTraces = false) (g : va_G) (τ : Nat → ClassId) (x sl sv : Nat) (ta aj me ad bd : Nat → Nat) (R : Nat → Nat → Int) (hI : SI R) (J : Nat → Nat → Int) (hjb : HB J) (hjs : JSp J) (c1 : Int) (rc1 : -2147483648 ≤ c1 ∧ c1 < 2147483648)  : uMet l yX9_decides wsX9_decides { frames := 7, cells := 1, slots := 6, locals := 110 } g τ [Value.ref x, Value.int (iI c1)] ([xoC x (ta 0) (aj 0) (me 0) sl sv (ad 0) (bd 0)] ++ (stW ad R τ ++ juW aj J τ)) (fun v w => (pDec R c1).1 = 0 ∧ v = some (Value.int (iI (pDec R c1).2)) ∧ ∃ J2, HB J2 ∧ JSp J2 ∧ w = [xoC x (ta 0) (aj 0) (me 0) sl sv (ad 0) (bd 0)] ++ (stW ad R τ ++ juW aj J2 τ)) (fun E w => (((pDec R c1).1 = 1 ∧ E = "java/lang/IndexOutOfBoundsException")) ∧ w = [xoC x (ta 0) (aj 0) (me 0) sl sv (ad 0) (bd 0)] ++ (stW ad R τ ++ juW aj J τ)) := by
  have hB := hI.hB
  have hr0 := hI.r
  have hd0 := hI.d
  have hs0 := hI.s
  have hN := hI.hN
  refine uMet_of (cc := cX9_decides) (maxL := 2) (ret := (some .int)) (lv := [(0, Value.ref x), (1, Value.int (iI c1))]) (by decide) rfl (Nat.le_of_ble_eq_true rfl) rfl ?_
  intro p e s m below meth c hx hb hr hml hts hown hlocks ht A H hP hD hS hK hZT hZU ls hl
  have hP_x := va_left hP
  have hP_s := va_left (va_right hP)
  have hP_j := va_right (va_right hP)
  refine lv_iload_n hx hb dX9_decides_0 rfl (lv_at hl 1 rfl) ?_
  refine ro_S (As := [Value.int (iI c1)]) (rest := []) (v := some (Value.int (iI (zB (decide (0 ≤ c1 ∧ c1 < 6)))))) ⟨hx, hb, hml, hown, hts⟩ (c_X9_isCharter l g τ c1 ⟨by omega, by omega⟩) gX9_decides_X9_isCharter cd_X9_isCharter rfl ⟨rfl, rfl⟩ ⟨Nat.le_of_ble_eq_true rfl, Nat.le_of_ble_eq_true rfl⟩ hK (fun _ _ h => nomatch h) rfl hl rfl (Nat.le_of_ble_eq_true rfl) dX9_decides_1 ⟨Nat.le_of_ble_eq_true rfl, Nat.le_of_ble_eq_true rfl⟩ ?_
  refine tl_some ?_
  refine u_must (rest := []) ⟨hx, hb, hml, hown, hts⟩ (c_X9_mustExist l g τ) (x_X9_mustExist l hst g τ) gX9_decides_X9_mustExist cd_X9_mustExist rfl ⟨rfl, rfl⟩ ⟨rfl, rfl⟩ ⟨Nat.le_of_ble_eq_true rfl, Nat.le_of_ble_eq_true rfl⟩ ⟨Nat.le_of_ble_eq_true rfl, Nat.le_of_ble_eq_true rfl⟩ hK hZT hZU hP hD hS hl (decide (0 ≤ c1 ∧ c1 < 6)) rfl (Nat.le_of_ble_eq_true rfl) dX9_decides_4 ⟨Nat.le_of_ble_eq_true rfl, Nat.le_of_ble_eq_true rfl⟩ ⟨Nat.le_of_ble_eq_true rfl, Nat.le_of_ble_eq_true rfl⟩ (fun c_1 H locs q9 ce9 hP hD hS a1 a2 a3 => ?_) (fun c_1 => ?_)
  · have cd_c_1 := of_decide_eq_false c_1
    exact u_out ht hlocks a1 a2 a3 hP hS ⟨Nat.le_of_ble_eq_true rfl, Nat.le_of_ble_eq_true rfl⟩ (⟨⟨by rw [pDec, if_pos (by omega)], rfl⟩, rfl⟩)
  · have cd_c_1 := of_decide_eq_true c_1
    refine lv_aload_n hx hb dX9_decides_7 rfl (lv_at hl 0 rfl) ?_
    refine va_get (D := g) (ci := 9) (v := Value.ref (aj 0)) (C := RX9) (T := TX9) (N := 7) hx hb hts in_X9_decides_X9 hown hK.1 hP_x 0 (rfl) rfl 1 (by decide) (hts _ (List.mem_of_getElem? (i := 1) rfl) : (Cond.fieldLink RX9 19 "CordSeals" "judge" "LCordSeals$Judge;").before _ s = true) (fun _ h9 => h9) rfl dX9_decides_8 ?_
    refine lv_aload_n hx hb dX9_decides_11 rfl (lv_at hl 0 rfl) ?_
    refine va_get (D := g) (ci := 9) (v := Value.ref (ad 0)) (C := RX9) (T := TX9) (N := 7) hx hb hts in_X9_decides_X9 hown hK.1 hP_x 0 (rfl) rfl 5 (by decide) (hts _ (List.mem_of_getElem? (i := 2) rfl) : (Cond.fieldLink RX9 41 "CordSeals" "state" "LCordSeals$State;").before _ s = true) (fun _ h9 => h9) rfl dX9_decides_12 ?_
    refine rq_V (As := [Value.ref (ad 0)]) (rest := []) ⟨hx, hb, hml, hown, hts⟩ (c_X1_look l g τ ad aj R J hI hjb hjs) gX9_decides_X1_look cd_X1_look rfl rfl ⟨rfl, rfl⟩ ⟨Nat.le_of_ble_eq_true rfl, Nat.le_of_ble_eq_true rfl⟩ hK hP hD hS (pm3_21 _ _ _) 0 rfl rfl rfl rfl hl rfl (Nat.le_of_ble_eq_true rfl) dX9_decides_15 ⟨Nat.le_of_ble_eq_true rfl, Nat.le_of_ble_eq_true rfl⟩ (fun v w h => by rw [h.2]; exact f_ju aj ad _ _ _ _) (fun v w1 H locs hZ hP hD hS => ?_)
    obtain ⟨rfl, rfl⟩ := hZ
    have hP : va_P g vwCl ([xoC x (ta 0) (aj 0) (me 0) sl sv (ad 0) (bd 0)] ++ (stW ad R τ ++ juW aj (seeJ R J) τ)) H := hP.pm (pm3_21 _ _ _).symm
    have hD : va_D A ([xoC x (ta 0) (aj 0) (me 0) sl sv (ad 0) (bd 0)] ++ (stW ad R τ ++ juW aj (seeJ R J) τ)) := hD.pm (pm3_21 _ _ _).symm
    obtain ⟨J1, hjb1, hjs1, hse1, hje⟩ : ∃ J1, HB J1 ∧ JSp J1 ∧ SEE R J1 6 ∧ seeJ R J = J1 := ⟨_, (see_ok hI hjb hjs).1, (see_ok hI hjb hjs).2, SEE_see hI J, rfl⟩
    rw [hje] at hP hD
    have hP_x := va_left hP
    have hP_s := va_left (va_right hP)
    have hP_j := va_right (va_right hP)
    refine tl_none ?_
    refine lv_aload_n hx hb dX9_decides_18 rfl (lv_at hl 0 rfl) ?_
    refine va_get (D := g) (ci := 9) (v := Value.ref (aj 0)) (C := RX9) (T := TX9) (N := 7) hx hb hts in_X9_decides_X9 hown hK.1 hP_x 0 (rfl) rfl 1 (by decide) (hts _ (List.mem_of_getElem? (i := 1) rfl) : (Cond.fieldLink RX9 19 "CordSeals" "judge" "LCordSeals$Judge;").before _ s = true) (fun _ h9 => h9) rfl dX9_decides_19 ?_
    refine lv_aload_n hx hb dX9_decides_22 rfl (lv_at hl 0 rfl) ?_
    refine va_get (D := g) (ci := 9) (v := Value.ref (ad 0)) (C := RX9) (T := TX9) (N := 7) hx hb hts in_X9_decides_X9 hown hK.1 hP_x 0 (rfl) rfl 5 (by decide) (hts _ (List.mem_of_getElem? (i := 2) rfl) : (Cond.fieldLink RX9 41 "CordSeals" "state" "LCordSeals$State;").before _ s = true) (fun _ h9 => h9) rfl dX9_decides_23 ?_
    refine lv_iload_n hx hb dX9_decides_26 rfl (lv_at hl 1 rfl) ?_
    refine rq_V (As := [Value.ref (ad 0), Value.int (iI c1)]) (rest := []) ⟨hx, hb, hml, hown, hts⟩ (c_X1_decider l g τ ad aj R J1 hI hjb1 hjs1 c1 ⟨by omega, by omega⟩) gX9_decides_X1_decider cd_X1_decider rfl rfl ⟨rfl, rfl⟩ ⟨Nat.le_of_ble_eq_true rfl, Nat.le_of_ble_eq_true rfl⟩ hK hP hD hS (pm3_21 _ _ _) 0 rfl rfl rfl rfl hl rfl (Nat.le_of_ble_eq_true rfl) dX9_decides_27 ⟨Nat.le_of_ble_eq_true rfl, Nat.le_of_ble_eq_true rfl⟩ (fun v w h => by rw [h.2]; exact f_ju aj ad _ _ _ _) (fun v w1 H locs hZ hP hD hS => ?_)
    obtain ⟨rfl, rfl⟩ := hZ
    have hP : va_P g vwCl ([xoC x (ta 0) (aj 0) (me 0) sl sv (ad 0) (bd 0)] ++ (stW ad R τ ++ juW aj ((dcS R J1 c1 (R 10 0).toNat).1) τ)) H := hP.pm (pm3_21 _ _ _).symm
    have hD : va_D A ([xoC x (ta 0) (aj 0) (me 0) sl sv (ad 0) (bd 0)] ++ (stW ad R τ ++ juW aj ((dcS R J1 c1 (R 10 0).toNat).1) τ)) := hD.pm (pm3_21 _ _ _).symm
    have hP_x := va_left hP
    have hP_s := va_left (va_right hP)
    have hP_j := va_right (va_right hP)
    refine tl_some ?_
    refine cv_i (y := iI (rDb R c1 (R 10 0).toNat)) (congrArg iI (by have hd := (dc_eq hI hse1 (c := c1.toNat) (by omega) (R 10 0).toNat (by omega)).2.1; rw [show ((c1.toNat : Nat) : Int) = c1 from by omega] at hd; exact hd)) ?_
    exact u_iret hx hb hr hlocks hP hS ⟨Nat.le_of_ble_eq_true rfl, Nat.le_of_ble_eq_true rfl⟩ (⟨by rw [pDec, if_neg (by omega)], (congrArg (fun z => some (Value.int (iI z))) (show (pDec R c1).2 = rDb R c1 (R 10 0).toNat from by rw [pDec, if_neg (by omega)])).symm, ⟨_, (dcS_ok hI hjb1 hjs1 c1 (R 10 0).toNat).1.1, (dcS_ok hI hjb1 hjs1 c1 (R 10 0).toNat).1.2, rfl⟩⟩) dX9_decides_30
