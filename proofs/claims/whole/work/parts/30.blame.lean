def JSp (J : Nat → Nat → Int) : Prop := ∀ i, i < 31 → 0 ≤ J 2 i
theorem JSp_yset {J : Nat → Nat → Int} (h : JSp J) {i : Nat} {a b c : Int} (hc : 0 ≤ c) : JSp (yset J i a b c) := fun k hk => by
  unfold yset
  split
  · exact hc
  · exact h k hk
theorem JSp_u2 {J : Nat → Nat → Int} (h : JSp J) {k : Nat} {f : Nat → Int} (hk : 3 ≤ k) : JSp (u2 J k f) := fun i hi => by
  unfold u2
  rw [if_neg (by omega)]
  exact h i hi
theorem date_ok {R J : Nat → Nat → Int} (hI : SI R) (h : HB J) (hs : JSp J) (n : Nat) : HB (dateJ R J n) ∧ JSp (dateJ R J n) := by
  refine ⟨fun k j => ?_, fun i hi => ?_⟩
  · have h1 := sLo_r hI.hB j
    have h2 := sHi_r hI.hB j
    have h3 := sSp_r hI j
    have h4 := sFirst_r hI.hB j
    have h5 := h k j
    unfold dateJ
    repeat' split
    all_goals omega
  · have h3 := sSp_r hI i
    have h5 := hs i hi
    unfold dateJ
    simp
    split <;> omega
def bcF (R J : Nat → Nat → Int) (q : Int) (i : Nat) : Nat → Int := fun j => if j < i ∧ R 16 j = q ∧ J 3 j = 0 then 4 else J 3 j
theorem bcF_0 (R J : Nat → Nat → Int) (q : Int) : bcF R J q 0 = J 3 := by
  funext j
  unfold bcF
  rw [if_neg (by omega)]
theorem u2_id (J : Nat → Nat → Int) (k : Nat) : u2 J k (J k) = J := by
  funext i
  unfold u2
  split
  · rename_i h; rw [h]
  · rfl
theorem u2_u2 (J : Nat → Nat → Int) (k : Nat) (f f2 : Nat → Int) : u2 (u2 J k f) k f2 = u2 J k f2 := by
  funext i
  unfold u2
  split <;> rfl
theorem bcF_n {R J : Nat → Nat → Int} {q : Int} {i : Nat} (h : ¬ (R 16 i = q ∧ J 3 i = 0)) : bcF R J q (i + 1) = bcF R J q i := by
  funext j
  unfold bcF
  by_cases e : j = i
  · subst e
    rw [if_neg (by intro z; exact h z.2), if_neg (by omega)]
  · have e1 : (j < i + 1) = (j < i) := by apply propext; omega
    simp only [e1]
theorem bcF_y {R J : Nat → Nat → Int} {q : Int} {i : Nat} (h : R 16 i = q ∧ J 3 i = 0) : bcF R J q (i + 1) = updZ (bcF R J q i) i 4 := by
  funext j
  unfold updZ
  by_cases e : j = i
  · subst e
    rw [if_pos rfl, bcF, if_pos ⟨by omega, h⟩]
  · rw [if_neg e]
    unfold bcF
    have e1 : (j < i + 1) = (j < i) := by apply propext; omega
    simp only [e1]
theorem bcF_i (R J : Nat → Nat → Int) (q : Int) (i : Nat) : bcF R J q i i = J 3 i := by
  unfold bcF
  rw [if_neg (by omega)]
theorem HB_row {J : Nat → Nat → Int} (h : HB J) {k : Nat} {f : Nat → Int} (hf : ∀ j, -1 ≤ f j ∧ f j < 65536) : HB (u2 J k f) := HB_u h hf
theorem bcF_r {R J : Nat → Nat → Int} (h : HB J) (q : Int) (i : Nat) : ∀ j, -1 ≤ bcF R J q i j ∧ bcF R J q i j < 65536 := fun j => by
  have := h 3 j
  unfold bcF
  split <;> omega
def owF (R J : Nat → Nat → Int) (i : Nat) : Nat → Int := fun j => if j < i then ownJ R J j else J 3 j
theorem owF_0 (R J : Nat → Nat → Int) : owF R J 0 = J 3 := by
  funext j
  unfold owF
  rw [if_neg (by omega)]
theorem owF_s (R J : Nat → Nat → Int) (i : Nat) : updZ (owF R J i) i (ownJ R J i) = owF R J (i + 1) := by
  funext j
  unfold updZ owF
  by_cases e : j = i
  · subst e; rw [if_pos rfl, if_pos (by omega)]
  · have e1 : (j < i + 1) = (j < i) := by apply propext; omega
    rw [if_neg e]
    simp only [e1]
theorem ownJ_r (R J : Nat → Nat → Int) (s : Nat) : 0 ≤ ownJ R J s ∧ ownJ R J s ≤ 3 := by
  unfold ownJ
  repeat' split
  all_goals omega
theorem owF_r {R J : Nat → Nat → Int} (h : HB J) (i : Nat) : ∀ j, -1 ≤ owF R J i j ∧ owF R J i j < 65536 := fun j => by
  have := h 3 j
  have := ownJ_r R J j
  unfold owF
  split <;> omega
/-- one charter looked at -/
def bl1 (R J : Nat → Nat → Int) (q : Nat) : Nat → Nat → Int := foJ J (pJ R J q (-1)) (R 10 0).toNat
def bl2 (R J : Nat → Nat → Int) (q : Nat) : Nat → Nat → Int := yset (bl1 R J q) (24 + q) (bl1 R J q 0 30) (bl1 R J q 1 30) (bl1 R J q 2 30)
def blS (R J : Nat → Nat → Int) (q : Nat) : Nat → Nat → Int := if yFirst R (R 1 0).toNat (bl1 R J q 0 30) (bl1 R J q 1 30) (bl1 R J q 2 30) = -1 then u2 (bl2 R J q) 3 (bcF R (bl2 R J q) q (R 10 0).toNat) else bl2 R J q
def blB (R J : Nat → Nat → Int) : Nat → Nat → Nat → Int
  | 0 => J
  | q + 1 => blS R (blB R J q) q
theorem bl1_ok {R J : Nat → Nat → Int} (hI : SI R) (h : HB J) (hs : JSp J) (q : Nat) : HB (bl1 R J q) ∧ JSp (bl1 R J q) := ⟨HB_foJ h hs (by have := hI.s; omega), foJ_s h hs (by have := hI.s; omega)⟩
theorem bl2_ok {R J : Nat → Nat → Int} (hI : SI R) (h : HB J) (hs : JSp J) (q : Nat) : HB (bl2 R J q) ∧ JSp (bl2 R J q) := by
  have h1 := bl1_ok hI h hs q
  exact ⟨HB_yset h1.1 (h1.1 0 30) (h1.1 1 30) (h1.1 2 30), JSp_yset h1.2 (h1.2 30 (by omega))⟩
theorem blS_ok {R J : Nat → Nat → Int} (hI : SI R) (h : HB J) (hs : JSp J) (q : Nat) : HB (blS R J q) ∧ JSp (blS R J q) := by
  have h2 := bl2_ok hI h hs q
  unfold blS
  split
  · exact ⟨HB_row h2.1 (bcF_r h2.1 _ _), JSp_u2 h2.2 (by omega)⟩
  · exact h2
theorem blB_ok {R J : Nat → Nat → Int} (hI : SI R) (h : HB J) (hs : JSp J) : ∀ i, HB (blB R J i) ∧ JSp (blB R J i)
  | 0 => ⟨h, hs⟩
  | i + 1 => by
    have h1 := blB_ok hI h hs i
    exact blS_ok hI h1.1 h1.2 i
def blameJ (R J : Nat → Nat → Int) : Nat → Nat → Int := blB R (u2 J 3 (owF R J (R 10 0).toNat)) 6
theorem blame_ok {R J : Nat → Nat → Int} (hI : SI R) (h : HB J) (hs : JSp J) : HB (blameJ R J) ∧ JSp (blameJ R J) := blB_ok hI (HB_row h (owF_r h _)) (JSp_u2 hs (by omega)) 6
def seeJ (R J : Nat → Nat → Int) : Nat → Nat → Int := blameJ R (dateJ R J (R 10 0).toNat)
theorem see_ok {R J : Nat → Nat → Int} (hI : SI R) (h : HB J) (hs : JSp J) : HB (seeJ R J) ∧ JSp (seeJ R J) := by
  have h1 := date_ok hI h hs (R 10 0).toNat
  exact blame_ok hI h1.1 h1.2
def dcS (R J : Nat → Nat → Int) (q : Int) : Nat → (Nat → Nat → Int) × Int × Int
  | 0 => (J, -1, -1)
  | s + 1 => if jD R (dcS R J q s).1 q s then (if (dcS R J q s).2.2 < yCount R (R 1 0).toNat (foJ (dcS R J q s).1 (pJ R (dcS R J q s).1 q s) (R 10 0).toNat 0 30) (foJ (dcS R J q s).1 (pJ R (dcS R J q s).1 q s) (R 10 0).toNat 1 30) (foJ (dcS R J q s).1 (pJ R (dcS R J q s).1 q s) (R 10 0).toNat 2 30) ((R 1 0).toNat + 1) then (foJ (dcS R J q s).1 (pJ R (dcS R J q s).1 q s) (R 10 0).toNat, (s : Int), yCount R (R 1 0).toNat (foJ (dcS R J q s).1 (pJ R (dcS R J q s).1 q s) (R 10 0).toNat 0 30) (foJ (dcS R J q s).1 (pJ R (dcS R J q s).1 q s) (R 10 0).toNat 1 30) (foJ (dcS R J q s).1 (pJ R (dcS R J q s).1 q s) (R 10 0).toNat 2 30) ((R 1 0).toNat + 1)) else (foJ (dcS R J q s).1 (pJ R (dcS R J q s).1 q s) (R 10 0).toNat, (dcS R J q s).2)) else dcS R J q s

theorem cd_X1_date : cd yX1_date 1 := by decide +kernel
theorem in_X1_date_X1 : ∀ w ∈ wsX10, w ∈ wsX1_date := by decide +kernel
theorem in_X1_date_X4 : ∀ w ∈ wsX40, w ∈ wsX1_date := by decide +kernel
theorem in_X1_date_X6 : ∀ w ∈ wsX60, w ∈ wsX1_date := by decide +kernel
set_option maxHeartbeats 1000000 in
set_option maxRecDepth 100000 in
theorem c_X1_date (l : Launch) (g : va_G) (τ : Nat → ClassId) (ad aj : Nat → Nat) (R J : Nat → Nat → Int) (hI : SI R) (hjb : HB J)  : Met l yX1_date wsX1_date { frames := 2, cells := 0, slots := 0, locals := 46 } (va_Pc [Value.ref (aj 0), Value.ref (ad 0)] (rwW g τ (juW aj J τ ++ stW ad R τ))) (rwQ g (fun v w => v = none ∧ w = juW aj (dateJ R J (R 10 0).toNat) τ ++ stW ad R τ) (inW (juW aj J τ ++ stW ad R τ))) 0 0 (inW (juW aj J τ ++ stW ad R τ)) := by
  have hB := hI.hB
  have hr0 := hI.r
  have hd0 := hI.d
  have hs0 := hI.s
  have hN := hI.hN
  refine rwMet (cc := cX1_date) (maxL := 7) (ret := none) (lv := [(0, Value.ref (aj 0)), (1, Value.ref (ad 0))]) (by decide) rfl (Nat.le_of_ble_eq_true rfl) rfl ?_
  intro p e s m below meth c hx hb hr hml hts hown hlocks A H hP hD hS hK ls hl
  have hJ := va_left hP
  have hT := va_right hP
  refine lv_aload_n hx hb dX1_date_0 rfl (lv_at hl 1 rfl) ?_
  refine va_get (D := g) (ci := 6) (v := Value.ref (ad 10)) (C := RX6) (T := TX6) (N := 5) hx hb hts in_X1_date_X6 hown hK.1 hT 0 (rfl) rfl 2 (by decide) (hts _ (List.mem_of_getElem? (i := 1) rfl) : (Cond.fieldLink RX1 42 "CordSeals$State" "seals" "LCordSeals$Seals;").before _ s = true) (fun _ h9 => h9) rfl dX1_date_1 ?_
  refine lv_astore_n (lv' := [(2, Value.ref (ad 10)), (0, Value.ref (aj 0)), (1, Value.ref (ad 0))]) hx hb dX1_date_4 rfl hl (by decide) rfl (fun ls hl => ?_)
  refine lv_iconst (v := iI 0) hx hb dX1_date_5 (by decide) ?_
  refine lv_istore_n (lv' := [(3, Value.int (iI 0)), (2, Value.ref (ad 10)), (0, Value.ref (aj 0)), (1, Value.ref (ad 0))]) hx hb dX1_date_6 rfl hl (by decide) rfl (fun ls hl => ?_)
  have hP : va_P g vwCl (juW aj (dateJ R J 0) τ ++ stW ad R τ) H := by first | exact hP | (rw [← date_0 R J] at hP; exact hP)
  have hD : va_D A (juW aj (dateJ R J 0) τ ++ stW ad R τ) := by first | exact hD | (rw [← date_0 R J] at hD; exact hD)
  refine lp_upW (fun i => [(3, Value.int (iI (i : Int))), (2, Value.ref (ad 10)), (0, Value.ref (aj 0)), (1, Value.ref (ad 0))]) (fun i => juW aj (dateJ R J i) τ ++ stW ad R τ) (fun i => True) ((R 10 0).toNat) (0) (by omega) hP hD hS (by first | trivial | (intro j hj; omega)) (lv_eq (lv_sub hl [0, 1, 2, 3] rfl) (by show [(3, Value.int (iI 0)), (2, Value.ref (ad 10)), (0, Value.ref (aj 0)), (1, Value.ref (ad 0))] = [(3, Value.int (iI 0)), (2, Value.ref (ad 10)), (0, Value.ref (aj 0)), (1, Value.ref (ad 0))]; rfl)) (fun i h0_i hi_i hI_i ih_7 H locs hP hD hS ls hl => ?_)
  have hJ := va_left hP
  have hT := va_right hP
  refine lv_iload_n hx hb dX1_date_7 rfl (lv_at hl 0 rfl) ?_
  refine lv_aload_n hx hb dX1_date_8 rfl (lv_at hl 1 rfl) ?_
  refine va_get (D := g) (ci := 4) (v := Value.int (iI (R 10 0))) (C := RX4) (T := TX4) (N := 7) hx hb hts in_X1_date_X4 hown hK.1 hT 10 (rfl) rfl 0 (by decide) (hts _ (List.mem_of_getElem? (i := 2) rfl) : (Cond.fieldLink RX1 48 "CordSeals$Seals" "count" "I").before _ s = true) (fun _ h9 => h9) rfl dX1_date_9 ?_
  have hb_1 := hB 10 0
  refine zi_icmp_ge (tgt := 108) hx hb ⟨by omega, by omega⟩ ⟨by omega, by omega⟩ dX1_date_12 (by decide) (fun c_2 => ?_) (fun c_2 => ?_)
  · have _ := c_2
    have h0_i : i = (R 10 0).toNat := by omega
    exact rw_vret hx hb hr hlocks hP hS (⟨rfl, by rw [h0_i]⟩) dX1_date_108
  · have _ := c_2
    have hl_i : i < (R 10 0).toNat := by omega
    refine lv_aload_n hx hb dX1_date_15 rfl (lv_at hl 1 rfl) ?_
    refine va_get (D := g) (ci := 4) (v := Value.ref (ad 11)) (C := RX4) (T := TX4) (N := 7) hx hb hts in_X1_date_X4 hown hK.1 hT 10 (rfl) rfl 1 (by decide) (hts _ (List.mem_of_getElem? (i := 3) rfl) : (Cond.fieldLink RX1 54 "CordSeals$Seals" "die" "[I").before _ s = true) (fun _ h9 => h9) rfl dX1_date_16 ?_
    refine lv_iload_n hx hb dX1_date_19 rfl (lv_at hl 0 rfl) ?_
    refine zi_ald hx hb hK hT 11 (f := (R 11)) (rfl) (i) (rfl) (by omega) (by decide) dX1_date_20 ?_
    have hb_3 := hB 11 i
    have hss := hI.sl i (by omega)
    have hdd := hI.ds (sDie R i) (by unfold sDie; omega)
    have hsd : sDie R i = (R 11 i).toNat := rfl
    have hq1 := sLo_r hB i
    have hq2 := sHi_r hB i
    have hq3 := sSp_r hI i
    refine lv_istore (lv' := [(4, Value.int (iI (R 11 i))), (3, Value.int (iI (i : Int))), (2, Value.ref (ad 10)), (0, Value.ref (aj 0)), (1, Value.ref (ad 0))]) hx hb dX1_date_21 hl (by decide) rfl (fun ls hl => ?_)
    refine lv_aload_n hx hb dX1_date_23 rfl (lv_at hl 4 rfl) ?_
    refine va_get (D := g) (ci := 6) (v := Value.ref (ad 4)) (C := RX6) (T := TX6) (N := 5) hx hb hts in_X1_date_X6 hown hK.1 hT 0 (rfl) rfl 1 (by decide) (hts _ (List.mem_of_getElem? (i := 4) rfl) : (Cond.fieldLink RX1 57 "CordSeals$State" "dies" "LCordSeals$Dies;").before _ s = true) (fun _ h9 => h9) rfl dX1_date_24 ?_
    refine lv_iload hx hb dX1_date_27 (lv_at hl 0 rfl) ?_
    refine cv_i (y := iI ((sDie R i : Nat) : Int)) (congrArg iI (by omega)) ?_
    refine lv_aload_n hx hb dX1_date_29 rfl (lv_at hl 2 rfl) ?_
    refine va_get (D := g) (ci := 4) (v := Value.ref (ad 15)) (C := RX4) (T := TX4) (N := 7) hx hb hts in_X1_date_X4 hown hK.1 hT 10 (rfl) rfl 5 (by decide) (hts _ (List.mem_of_getElem? (i := 5) rfl) : (Cond.fieldLink RX1 61 "CordSeals$Seals" "shown" "[I").before _ s = true) (fun _ h9 => h9) rfl dX1_date_30 ?_
    refine lv_iload_n hx hb dX1_date_33 rfl (lv_at hl 1 rfl) ?_
    refine zi_ald hx hb hK hT 15 (f := (R 15)) (rfl) (i) (rfl) (by omega) (by decide) dX1_date_34 ?_
    have hb_4 := hB 15 i
    refine ro_V (As := [Value.int (iI ((sDie R i : Nat) : Int)), Value.int (iI (R 15 i))]) (rest := []) (v := some (Value.int (iI (sLo R i)))) ⟨hx, hb, hml, hown, hts⟩ (c_X0_firstYear l g τ ad R hB (sDie R i) (R 8 (sDie R i)).toNat (by omega) (by omega) (by omega) (R 15 i) ⟨by omega, by omega⟩) gX1_date_X0_firstYear cd_X0_firstYear rfl rfl ⟨rfl, rfl⟩ ⟨Nat.le_of_ble_eq_true rfl, Nat.le_of_ble_eq_true rfl⟩ hK (hT.sub [4, 5, 6, 7, 8, 9] rfl) 0 rfl rfl rfl rfl hl rfl (Nat.le_of_ble_eq_true rfl) dX1_date_35 ⟨Nat.le_of_ble_eq_true rfl, Nat.le_of_ble_eq_true rfl⟩ ?_
    refine tl_some ?_
    refine lv_istore (lv' := [(5, Value.int (iI (sLo R i))), (4, Value.int (iI (R 11 i))), (3, Value.int (iI (i : Int))), (2, Value.ref (ad 10)), (0, Value.ref (aj 0)), (1, Value.ref (ad 0))]) hx hb dX1_date_38 hl (by decide) rfl (fun ls hl => ?_)
    refine lv_aload_n hx hb dX1_date_40 rfl (lv_at hl 5 rfl) ?_
    refine va_get (D := g) (ci := 6) (v := Value.ref (ad 4)) (C := RX6) (T := TX6) (N := 5) hx hb hts in_X1_date_X6 hown hK.1 hT 0 (rfl) rfl 1 (by decide) (hts _ (List.mem_of_getElem? (i := 4) rfl) : (Cond.fieldLink RX1 57 "CordSeals$State" "dies" "LCordSeals$Dies;").before _ s = true) (fun _ h9 => h9) rfl dX1_date_41 ?_
    refine lv_iload hx hb dX1_date_44 (lv_at hl 1 rfl) ?_
    refine cv_i (y := iI ((sDie R i : Nat) : Int)) (congrArg iI (by omega)) ?_
    refine lv_aload_n hx hb dX1_date_46 rfl (lv_at hl 3 rfl) ?_
    refine va_get (D := g) (ci := 4) (v := Value.ref (ad 15)) (C := RX4) (T := TX4) (N := 7) hx hb hts in_X1_date_X4 hown hK.1 hT 10 (rfl) rfl 5 (by decide) (hts _ (List.mem_of_getElem? (i := 5) rfl) : (Cond.fieldLink RX1 61 "CordSeals$Seals" "shown" "[I").before _ s = true) (fun _ h9 => h9) rfl dX1_date_47 ?_
    refine lv_iload_n hx hb dX1_date_50 rfl (lv_at hl 2 rfl) ?_
    refine zi_ald hx hb hK hT 15 (f := (R 15)) (rfl) (i) (rfl) (by omega) (by decide) dX1_date_51 ?_
    have hb_5 := hB 15 i
    refine ro_V (As := [Value.int (iI ((sDie R i : Nat) : Int)), Value.int (iI (R 15 i))]) (rest := []) (v := some (Value.int (iI (sHi R i)))) ⟨hx, hb, hml, hown, hts⟩ (c_X0_lastYear l g τ ad R hB (sDie R i) (R 8 (sDie R i)).toNat (by omega) (by omega) (by omega) (R 15 i) ⟨by omega, by omega⟩) gX1_date_X0_lastYear cd_X0_lastYear rfl rfl ⟨rfl, rfl⟩ ⟨Nat.le_of_ble_eq_true rfl, Nat.le_of_ble_eq_true rfl⟩ hK (hT.sub [4, 5, 6, 7, 8, 9] rfl) 0 rfl rfl rfl rfl hl rfl (Nat.le_of_ble_eq_true rfl) dX1_date_52 ⟨Nat.le_of_ble_eq_true rfl, Nat.le_of_ble_eq_true rfl⟩ ?_
    refine tl_some ?_
    refine lv_istore (lv' := [(6, Value.int (iI (sHi R i))), (5, Value.int (iI (sLo R i))), (4, Value.int (iI (R 11 i))), (3, Value.int (iI (i : Int))), (2, Value.ref (ad 10)), (0, Value.ref (aj 0)), (1, Value.ref (ad 0))]) hx hb dX1_date_55 hl (by decide) rfl (fun ls hl => ?_)
    refine lv_aload_n hx hb dX1_date_57 rfl (lv_at hl 5 rfl) ?_
    refine va_get (D := g) (ci := 1) (v := Value.ref (aj 1)) (C := RX1) (T := TX1) (N := 6) hx hb hts in_X1_date_X1 hown hK.1 hJ 0 (rfl) rfl 0 (by decide) (hts _ (List.mem_of_getElem? (i := 6) rfl) : (Cond.fieldLink RX1 11 "CordSeals$Judge" "ofSeals" "[LCordSeals$Years;").before _ s = true) (fun _ h9 => h9) rfl dX1_date_58 ?_
    refine lv_iload_n hx hb dX1_date_61 rfl (lv_at hl 3 rfl) ?_
    refine zq_ald hx hb hK hJ 1 3 (C := RX8) (f := (fun i => some (aj (10 + i)))) (rfl) rfl (i) (rfl) (by omega) (by decide) (rfl) dX1_date_62 ?_
    refine lv_iload hx hb dX1_date_63 (lv_at hl 1 rfl) ?_
    refine lv_iload hx hb dX1_date_65 (lv_at hl 0 rfl) ?_
    refine lv_aload_n hx hb dX1_date_67 rfl (lv_at hl 6 rfl) ?_
    refine va_get (D := g) (ci := 6) (v := Value.ref (ad 1)) (C := RX6) (T := TX6) (N := 5) hx hb hts in_X1_date_X6 hown hK.1 hT 0 (rfl) rfl 0 (by decide) (hts _ (List.mem_of_getElem? (i := 7) rfl) : (Cond.fieldLink RX1 73 "CordSeals$State" "reigns" "LCordSeals$Reigns;").before _ s = true) (fun _ h9 => h9) rfl dX1_date_68 ?_
    refine lv_aload_n hx hb dX1_date_71 rfl (lv_at hl 4 rfl) ?_
    refine va_get (D := g) (ci := 4) (v := Value.ref (ad 13)) (C := RX4) (T := TX4) (N := 7) hx hb hts in_X1_date_X4 hown hK.1 hT 10 (rfl) rfl 3 (by decide) (hts _ (List.mem_of_getElem? (i := 8) rfl) : (Cond.fieldLink RX1 77 "CordSeals$Seals" "colour" "[I").before _ s = true) (fun _ h9 => h9) rfl dX1_date_72 ?_
    refine lv_iload_n hx hb dX1_date_75 rfl (lv_at hl 3 rfl) ?_
    refine zi_ald hx hb hK hT 13 (f := (R 13)) (rfl) (i) (rfl) (by omega) (by decide) dX1_date_76 ?_
    have hb_6 := hB 13 i
    refine ro_V (As := [Value.int (iI (R 13 i))]) (rest := [Value.int (iI (sHi R i)), Value.int (iI (sLo R i)), Value.ref (aj (10 + i))]) (v := some (Value.int (iI (sSp R i)))) ⟨hx, hb, hml, hown, hts⟩ (c_X3_rightSpans l g τ ad R hB (R 1 0).toNat (by omega) (by omega) (R 13 i) ⟨by omega, by omega⟩ (fun j hj => by have := hI.rg j (by omega); omega)) gX1_date_X3_rightSpans cd_X3_rightSpans rfl rfl ⟨rfl, rfl⟩ ⟨Nat.le_of_ble_eq_true rfl, Nat.le_of_ble_eq_true rfl⟩ hK (hT.sub [1, 2, 3] rfl) 0 rfl rfl rfl rfl hl rfl (Nat.le_of_ble_eq_true rfl) dX1_date_77 ⟨Nat.le_of_ble_eq_true rfl, Nat.le_of_ble_eq_true rfl⟩ ?_
    refine tl_some ?_
    refine rw_V (As := [Value.int (iI (sLo R i)), Value.int (iI (sHi R i)), Value.int (iI (sSp R i))]) (rest := []) ⟨hx, hb, hml, hown, hts⟩ (c_X8_start l g τ (aj (10 + i)) ((dateJ R J i) 0 i) ((dateJ R J i) 1 i) ((dateJ R J i) 2 i) (sLo R i) (sHi R i) (sSp R i)) gX1_date_X8_start cd_X8_start rfl rfl ⟨rfl, rfl⟩ ⟨Nat.le_of_ble_eq_true rfl, Nat.le_of_ble_eq_true rfl⟩ hK hP hD hS [6 + i] (c_y1 (by omega) rfl rfl rfl) (nd1 _) 0 rfl rfl rfl rfl hl rfl (Nat.le_of_ble_eq_true rfl) dX1_date_80 ⟨Nat.le_of_ble_eq_true rfl, Nat.le_of_ble_eq_true rfl⟩ (fun v w h => by rw [h.2]; exact f_y _ _ _ _ _ _ _) (fun v w1 H locs hZ hP hD hS => ?_)
    obtain ⟨rfl, rfl⟩ := hZ
    rw [b_y (by omega)] at hP hD
    have hJ := va_left hP
    have hT := va_right hP
    refine tl_none ?_
    refine lv_aload_n hx hb dX1_date_83 rfl (lv_at hl 5 rfl) ?_
    refine va_get (D := g) (ci := 1) (v := Value.ref (aj 4)) (C := RX1) (T := TX1) (N := 6) hx hb hts in_X1_date_X1 hown hK.1 hJ 0 (rfl) rfl 3 (by decide) (hts _ (List.mem_of_getElem? (i := 9) rfl) : (Cond.fieldLink RX1 24 "CordSeals$Judge" "first" "[I").before _ s = true) (fun _ h9 => h9) rfl dX1_date_84 ?_
    refine lv_iload_n hx hb dX1_date_87 rfl (lv_at hl 3 rfl) ?_
    refine lv_aload_n hx hb dX1_date_88 rfl (lv_at hl 5 rfl) ?_
    refine va_get (D := g) (ci := 1) (v := Value.ref (aj 1)) (C := RX1) (T := TX1) (N := 6) hx hb hts in_X1_date_X1 hown hK.1 hJ 0 (rfl) rfl 0 (by decide) (hts _ (List.mem_of_getElem? (i := 6) rfl) : (Cond.fieldLink RX1 11 "CordSeals$Judge" "ofSeals" "[LCordSeals$Years;").before _ s = true) (fun _ h9 => h9) rfl dX1_date_89 ?_
    refine lv_iload_n hx hb dX1_date_92 rfl (lv_at hl 3 rfl) ?_
    refine zq_ald hx hb hK hJ 1 3 (C := RX8) (f := (fun i => some (aj (10 + i)))) (rfl) rfl (i) (rfl) (by omega) (by decide) (rfl) dX1_date_93 ?_
    refine lv_aload_n hx hb dX1_date_94 rfl (lv_at hl 6 rfl) ?_
    refine va_get (D := g) (ci := 6) (v := Value.ref (ad 1)) (C := RX6) (T := TX6) (N := 5) hx hb hts in_X1_date_X6 hown hK.1 hT 0 (rfl) rfl 0 (by decide) (hts _ (List.mem_of_getElem? (i := 7) rfl) : (Cond.fieldLink RX1 73 "CordSeals$State" "reigns" "LCordSeals$Reigns;").before _ s = true) (fun _ h9 => h9) rfl dX1_date_95 ?_
    refine ro_V (As := [Value.ref (ad 1)]) (rest := [Value.int (iI (i : Int)), Value.ref (aj 4)]) (v := some (Value.int (iI (yFirst R (R 1 0).toNat (sLo R i) (sHi R i) (sSp R i))))) ⟨hx, hb, hml, hown, hts⟩ (c_X8_first l g τ (aj (10 + i)) (sLo R i) (sHi R i) (sSp R i) ⟨by omega, by omega⟩ ⟨by omega, by omega⟩ ⟨by omega, by omega⟩ ad R hB (R 1 0).toNat (by omega) (by omega)) gX1_date_X8_first cd_X8_first rfl rfl ⟨rfl, rfl⟩ ⟨Nat.le_of_ble_eq_true rfl, Nat.le_of_ble_eq_true rfl⟩ hK ((y1s hJ (by omega)).app (hT.sub [1, 2, 3] rfl)) 0 rfl rfl rfl rfl hl rfl (Nat.le_of_ble_eq_true rfl) dX1_date_98 ⟨Nat.le_of_ble_eq_true rfl, Nat.le_of_ble_eq_true rfl⟩ ?_
    refine tl_some ?_
    have hyf := yFirst_r hB (R 1 0).toNat (lo := (sLo R i)) ⟨by omega, by omega⟩ (sHi R i) (sSp R i)
    refine zi_ast hx hb hK hP hD hS 4 (f := ((yset (dateJ R J i) i (sLo R i) (sHi R i) (sSp R i)) 4)) (rfl) (i) (rfl) (by omega) (by decide) dX1_date_101 (wo := juW aj (u2 (yset (dateJ R J i) i (sLo R i) (sHi R i) (sSp R i)) 4 (updZ ((yset (dateJ R J i) i (sLo R i) (sHi R i) (sSp R i)) 4) i (yFirst R (R 1 0).toNat (sLo R i) (sHi R i) (sSp R i)))) τ ++ stW ad R τ) (s_j4 _ _ _ _ _) (fun H locs hP hD hS => ?_)
    have hJ := va_left hP
    have hT := va_right hP
    refine zi_inc (v := ((i + 1 : Nat) : Int)) (lv' := [(3, Value.int (iI ((i + 1 : Nat) : Int))), (6, Value.int (iI (sHi R i))), (5, Value.int (iI (sLo R i))), (4, Value.int (iI (R 11 i))), (2, Value.ref (ad 10)), (0, Value.ref (aj 0)), (1, Value.ref (ad 0))]) hx hb dX1_date_102 hl (k := 3) rfl (by omega) (by decide) rfl (fun ls hl => ?_)
    refine lv_goto (tgt := 7) hx hb dX1_date_105 (by decide) ?_
    have hb_7 : (((i + 1) : Nat) : Int) = ((i + 1 : Nat) : Int) := by first | rfl | omega | (simp [c_2]; done)
    have hw_8 : juW aj (u2 (yset (dateJ R J i) i (sLo R i) (sHi R i) (sSp R i)) 4 (updZ ((yset (dateJ R J i) i (sLo R i) (sHi R i) (sSp R i)) 4) i (yFirst R (R 1 0).toNat (sLo R i) (sHi R i) (sSp R i)))) τ ++ stW ad R τ = juW aj (dateJ R J (i + 1)) τ ++ stW ad R τ := congrArg (fun z => juW aj z τ ++ stW ad R τ) (date_s R J i)
    rw [hw_8] at hP hD
    exact ih_7 hl_i (trivial) _ _ _ hP hD hS (lv_eq (lv_sub hl [0, 4, 5, 6] rfl) (by show [(3, Value.int (iI (((i + 1) : Nat) : Int))), (2, Value.ref (ad 10)), (0, Value.ref (aj 0)), (1, Value.ref (ad 0))] = [(3, Value.int (iI ((i + 1 : Nat) : Int))), (2, Value.ref (ad 10)), (0, Value.ref (aj 0)), (1, Value.ref (ad 0))]; rw [hb_7]))

theorem cd_X1_blameCharter : cd yX1_blameCharter 2 := by decide +kernel
theorem in_X1_blameCharter_X1 : ∀ w ∈ wsX10, w ∈ wsX1_blameCharter := by decide +kernel
theorem in_X1_blameCharter_X4 : ∀ w ∈ wsX40, w ∈ wsX1_blameCharter := by decide +kernel
theorem in_X1_blameCharter_X6 : ∀ w ∈ wsX60, w ∈ wsX1_blameCharter := by decide +kernel
set_option maxHeartbeats 1000000 in
set_option maxRecDepth 100000 in
theorem c_X1_blameCharter (l : Launch) (g : va_G) (τ : Nat → ClassId) (ad aj : Nat → Nat) (R J : Nat → Nat → Int) (hI : SI R) (hjb : HB J) (q : Int) (rq : -2147483648 ≤ q ∧ q < 2147483648)  : Met l yX1_blameCharter wsX1_blameCharter { frames := 0, cells := 0, slots := 0, locals := 0 } (va_Pc [Value.ref (aj 0), Value.ref (ad 0), Value.int (iI q)] (rwW g τ (juW aj J τ ++ stW ad R τ))) (rwQ g (fun v w => v = none ∧ w = juW aj (u2 J 3 (bcF R J q (R 10 0).toNat)) τ ++ stW ad R τ) (inW (juW aj J τ ++ stW ad R τ))) 0 0 (inW (juW aj J τ ++ stW ad R τ)) := by
  have hB := hI.hB
  have hr0 := hI.r
  have hd0 := hI.d
  have hs0 := hI.s
  have hN := hI.hN
  refine rwMet (cc := cX1_blameCharter) (maxL := 4) (ret := none) (lv := [(0, Value.ref (aj 0)), (1, Value.ref (ad 0)), (2, Value.int (iI q))]) (by decide) rfl (Nat.le_of_ble_eq_true rfl) rfl ?_
  intro p e s m below meth c hx hb hr hml hts hown hlocks A H hP hD hS hK ls hl
  have hJ := va_left hP
  have hT := va_right hP
  refine lv_iconst (v := iI 0) hx hb dX1_blameCharter_0 (by decide) ?_
  refine lv_istore_n (lv' := [(3, Value.int (iI 0)), (0, Value.ref (aj 0)), (1, Value.ref (ad 0)), (2, Value.int (iI q))]) hx hb dX1_blameCharter_1 rfl hl (by decide) rfl (fun ls hl => ?_)
  have hP : va_P g vwCl (juW aj (u2 J 3 (bcF R J q 0)) τ ++ stW ad R τ) H := by first | exact hP | (rw [show juW aj (u2 J 3 (bcF R J q 0)) τ = juW aj J τ from by rw [bcF_0, u2_id]]; exact hP)
  have hD : va_D A (juW aj (u2 J 3 (bcF R J q 0)) τ ++ stW ad R τ) := by first | exact hD | (rw [show juW aj (u2 J 3 (bcF R J q 0)) τ = juW aj J τ from by rw [bcF_0, u2_id]]; exact hD)
  refine lp_upW (fun i => [(3, Value.int (iI (i : Int))), (0, Value.ref (aj 0)), (1, Value.ref (ad 0)), (2, Value.int (iI q))]) (fun i => juW aj (u2 J 3 (bcF R J q i)) τ ++ stW ad R τ) (fun i => True) ((R 10 0).toNat) (0) (by omega) hP hD hS (by first | trivial | (intro j hj; omega)) (lv_eq (lv_sub hl [0, 1, 2, 3] rfl) (by show [(3, Value.int (iI 0)), (0, Value.ref (aj 0)), (1, Value.ref (ad 0)), (2, Value.int (iI q))] = [(3, Value.int (iI 0)), (0, Value.ref (aj 0)), (1, Value.ref (ad 0)), (2, Value.int (iI q))]; rfl)) (fun i h0_i hi_i hI_i ih_2 H locs hP hD hS ls hl => ?_)
  have hJ := va_left hP
  have hT := va_right hP
  have hbr := bcF_r (R := R) hjb q i
  have hbi := hbr i
  have hbe := bcF_i R J q i
  refine lv_iload_n hx hb dX1_blameCharter_2 rfl (lv_at hl 0 rfl) ?_
  refine lv_aload_n hx hb dX1_blameCharter_3 rfl (lv_at hl 2 rfl) ?_
  refine va_get (D := g) (ci := 6) (v := Value.ref (ad 10)) (C := RX6) (T := TX6) (N := 5) hx hb hts in_X1_blameCharter_X6 hown hK.1 hT 0 (rfl) rfl 2 (by decide) (hts _ (List.mem_of_getElem? (i := 1) rfl) : (Cond.fieldLink RX1 42 "CordSeals$State" "seals" "LCordSeals$Seals;").before _ s = true) (fun _ h9 => h9) rfl dX1_blameCharter_4 ?_
  refine va_get (D := g) (ci := 4) (v := Value.int (iI (R 10 0))) (C := RX4) (T := TX4) (N := 7) hx hb hts in_X1_blameCharter_X4 hown hK.1 hT 10 (rfl) rfl 0 (by decide) (hts _ (List.mem_of_getElem? (i := 2) rfl) : (Cond.fieldLink RX1 48 "CordSeals$Seals" "count" "I").before _ s = true) (fun _ h9 => h9) rfl dX1_blameCharter_7 ?_
  have hb_1 := hB 10 0
  refine zi_icmp_ge (tgt := 48) hx hb ⟨by omega, by omega⟩ ⟨by omega, by omega⟩ dX1_blameCharter_10 (by decide) (fun c_2 => ?_) (fun c_2 => ?_)
  · have _ := c_2
    have h0_i : i = (R 10 0).toNat := by omega
    exact rw_vret hx hb hr hlocks hP hS (⟨rfl, by rw [h0_i]⟩) dX1_blameCharter_48
  · have _ := c_2
    have hl_i : i < (R 10 0).toNat := by omega
    refine lv_aload_n hx hb dX1_blameCharter_13 rfl (lv_at hl 2 rfl) ?_
    refine va_get (D := g) (ci := 6) (v := Value.ref (ad 10)) (C := RX6) (T := TX6) (N := 5) hx hb hts in_X1_blameCharter_X6 hown hK.1 hT 0 (rfl) rfl 2 (by decide) (hts _ (List.mem_of_getElem? (i := 1) rfl) : (Cond.fieldLink RX1 42 "CordSeals$State" "seals" "LCordSeals$Seals;").before _ s = true) (fun _ h9 => h9) rfl dX1_blameCharter_14 ?_
    refine va_get (D := g) (ci := 4) (v := Value.ref (ad 16)) (C := RX4) (T := TX4) (N := 7) hx hb hts in_X1_blameCharter_X4 hown hK.1 hT 10 (rfl) rfl 6 (by decide) (hts _ (List.mem_of_getElem? (i := 3) rfl) : (Cond.fieldLink RX1 121 "CordSeals$Seals" "hangsOn" "[I").before _ s = true) (fun _ h9 => h9) rfl dX1_blameCharter_17 ?_
    refine lv_iload_n hx hb dX1_blameCharter_20 rfl (lv_at hl 0 rfl) ?_
    refine zi_ald hx hb hK hT 16 (f := (R 16)) (rfl) (i) (rfl) (by omega) (by decide) dX1_blameCharter_21 ?_
    have hb_3 := hB 16 i
    refine lv_iload_n hx hb dX1_blameCharter_22 rfl (lv_at hl 3 rfl) ?_
    refine zi_icmp_ne (tgt := 42) hx hb ⟨by omega, by omega⟩ ⟨by omega, by omega⟩ dX1_blameCharter_23 (by decide) (fun c_4 => ?_) (fun c_4 => ?_)
    · have _ := c_4
      have hww := congrArg (fun z => juW aj (u2 J 3 z) τ ++ stW ad R τ) (bcF_n (R := R) (J := J) (q := q) (i := i) (by omega)).symm
      refine zi_inc (v := ((i + 1 : Nat) : Int)) (lv' := [(3, Value.int (iI ((i + 1 : Nat) : Int))), (0, Value.ref (aj 0)), (1, Value.ref (ad 0)), (2, Value.int (iI q))]) hx hb dX1_blameCharter_42 hl (k := 0) rfl (by omega) (by decide) rfl (fun ls hl => ?_)
      refine lv_goto (tgt := 2) hx hb dX1_blameCharter_45 (by decide) ?_
      have hb_5 : (((i + 1) : Nat) : Int) = ((i + 1 : Nat) : Int) := by first | rfl | omega | (simp [c_2, c_4]; done)
      have hw_6 : juW aj (u2 J 3 (bcF R J q i)) τ ++ stW ad R τ = juW aj (u2 J 3 (bcF R J q (i + 1))) τ ++ stW ad R τ := hww
      rw [hw_6] at hP hD
      exact ih_2 hl_i (trivial) _ _ _ hP hD hS (lv_eq (lv_sub hl [0, 1, 2, 3] rfl) (by show [(3, Value.int (iI (((i + 1) : Nat) : Int))), (0, Value.ref (aj 0)), (1, Value.ref (ad 0)), (2, Value.int (iI q))] = [(3, Value.int (iI ((i + 1 : Nat) : Int))), (0, Value.ref (aj 0)), (1, Value.ref (ad 0)), (2, Value.int (iI q))]; rw [hb_5]))
    · have _ := c_4
      refine lv_aload_n hx hb dX1_blameCharter_26 rfl (lv_at hl 1 rfl) ?_
      refine va_get (D := g) (ci := 1) (v := Value.ref (aj 3)) (C := RX1) (T := TX1) (N := 6) hx hb hts in_X1_blameCharter_X1 hown hK.1 hJ 0 (rfl) rfl 2 (by decide) (hts _ (List.mem_of_getElem? (i := 4) rfl) : (Cond.fieldLink RX1 20 "CordSeals$Judge" "reason" "[I").before _ s = true) (fun _ h9 => h9) rfl dX1_blameCharter_27 ?_
      refine lv_iload_n hx hb dX1_blameCharter_30 rfl (lv_at hl 0 rfl) ?_
      refine zi_ald hx hb hK hJ 3 (f := (bcF R J q i)) (rfl) (i) (rfl) (by omega) (by decide) dX1_blameCharter_31 ?_
      refine zi_if_ne (tgt := 42) hx hb ⟨by omega, by omega⟩ dX1_blameCharter_32 (by decide) (fun c_7 => ?_) (fun c_7 => ?_)
      · have _ := c_7
        have hww := congrArg (fun z => juW aj (u2 J 3 z) τ ++ stW ad R τ) (bcF_n (R := R) (J := J) (q := q) (i := i) (by omega)).symm
        refine zi_inc (v := ((i + 1 : Nat) : Int)) (lv' := [(3, Value.int (iI ((i + 1 : Nat) : Int))), (0, Value.ref (aj 0)), (1, Value.ref (ad 0)), (2, Value.int (iI q))]) hx hb dX1_blameCharter_42 hl (k := 0) rfl (by omega) (by decide) rfl (fun ls hl => ?_)
        refine lv_goto (tgt := 2) hx hb dX1_blameCharter_45 (by decide) ?_
        have hb_8 : (((i + 1) : Nat) : Int) = ((i + 1 : Nat) : Int) := by first | rfl | omega | (simp [c_2, c_4, c_7]; done)
        have hw_9 : juW aj (u2 J 3 (bcF R J q i)) τ ++ stW ad R τ = juW aj (u2 J 3 (bcF R J q (i + 1))) τ ++ stW ad R τ := hww
        rw [hw_9] at hP hD
        exact ih_2 hl_i (trivial) _ _ _ hP hD hS (lv_eq (lv_sub hl [0, 1, 2, 3] rfl) (by show [(3, Value.int (iI (((i + 1) : Nat) : Int))), (0, Value.ref (aj 0)), (1, Value.ref (ad 0)), (2, Value.int (iI q))] = [(3, Value.int (iI ((i + 1 : Nat) : Int))), (0, Value.ref (aj 0)), (1, Value.ref (ad 0)), (2, Value.int (iI q))]; rw [hb_8]))
      · have _ := c_7
        have hww := (congrArg (fun z => juW aj z τ ++ stW ad R τ) (u2_u2 J 3 (bcF R J q i) (updZ (bcF R J q i) i 4))).trans (congrArg (fun z => juW aj (u2 J 3 z) τ ++ stW ad R τ) (bcF_y (R := R) (J := J) (q := q) (i := i) ⟨by omega, by omega⟩).symm)
        refine lv_aload_n hx hb dX1_blameCharter_35 rfl (lv_at hl 1 rfl) ?_
        refine va_get (D := g) (ci := 1) (v := Value.ref (aj 3)) (C := RX1) (T := TX1) (N := 6) hx hb hts in_X1_blameCharter_X1 hown hK.1 hJ 0 (rfl) rfl 2 (by decide) (hts _ (List.mem_of_getElem? (i := 4) rfl) : (Cond.fieldLink RX1 20 "CordSeals$Judge" "reason" "[I").before _ s = true) (fun _ h9 => h9) rfl dX1_blameCharter_36 ?_
        refine lv_iload_n hx hb dX1_blameCharter_39 rfl (lv_at hl 0 rfl) ?_
        refine lv_iconst (v := iI 4) hx hb dX1_blameCharter_40 (by decide) ?_
        refine zi_ast hx hb hK hP hD hS 3 (f := (bcF R J q i)) (rfl) (i) (rfl) (by omega) (by decide) dX1_blameCharter_41 (wo := juW aj (u2 (u2 J 3 (bcF R J q i)) 3 (updZ (bcF R J q i) i 4)) τ ++ stW ad R τ) (s_j3 _ _ _ _ _) (fun H locs hP hD hS => ?_)
        have hJ := va_left hP
        have hT := va_right hP
        refine zi_inc (v := ((i + 1 : Nat) : Int)) (lv' := [(3, Value.int (iI ((i + 1 : Nat) : Int))), (0, Value.ref (aj 0)), (1, Value.ref (ad 0)), (2, Value.int (iI q))]) hx hb dX1_blameCharter_42 hl (k := 0) rfl (by omega) (by decide) rfl (fun ls hl => ?_)
        refine lv_goto (tgt := 2) hx hb dX1_blameCharter_45 (by decide) ?_
        have hb_10 : (((i + 1) : Nat) : Int) = ((i + 1 : Nat) : Int) := by first | rfl | omega | (simp [c_2, c_4, c_7]; done)
        have hw_11 : juW aj (u2 (u2 J 3 (bcF R J q i)) 3 (updZ (bcF R J q i) i 4)) τ ++ stW ad R τ = juW aj (u2 J 3 (bcF R J q (i + 1))) τ ++ stW ad R τ := hww
        rw [hw_11] at hP hD
        exact ih_2 hl_i (trivial) _ _ _ hP hD hS (lv_eq (lv_sub hl [0, 1, 2, 3] rfl) (by show [(3, Value.int (iI (((i + 1) : Nat) : Int))), (0, Value.ref (aj 0)), (1, Value.ref (ad 0)), (2, Value.int (iI q))] = [(3, Value.int (iI ((i + 1 : Nat) : Int))), (0, Value.ref (aj 0)), (1, Value.ref (ad 0)), (2, Value.int (iI q))]; rw [hb_10]))
