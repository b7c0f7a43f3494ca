theorem jst_at {aj : Nat → Nat} {J : Nat → Nat → Int} {τ : Nat → ClassId} {X : va_W} (k : Nat) : (juW aj J τ ++ X)[37 + k]? = X[k]? := by
  rw [List.getElem?_append_right (by rw [juW_len]; omega), juW_len, Nat.add_sub_cancel_left]
theorem SI_19 {R : Nat → Nat → Int} (hI : SI R) {f : Nat → Int} (hf : ∀ j, -1 ≤ f j ∧ f j < 65536) (h1 : ∀ h k : Nat, h < 6 → (k : Int) < R 18 h → 0 ≤ f (h * 6 + k) ∧ f (h * 6 + k) < R 10 0) (h2 : ∀ h k h2 k2 : Nat, h < 6 → h2 < 6 → (k : Int) < R 18 h → (k2 : Int) < R 18 h2 → f (h * 6 + k) = f (h2 * 6 + k2) → h = h2 ∧ k = k2) : SI (u2 R 19 f) :=
  ⟨HB_u hI.hB hf, hI.r, hI.d, hI.s, hI.rg, hI.inc, hI.ds, hI.sl, hI.hN, h1, h2, hI.w⟩
def skS (p k j : Nat) : Nat := if j < p then j else if j = p then k else if j ≤ k then j - 1 else j
theorem skF_own {R J : Nat → Nat → Int} {h k : Nat} (j : Nat) : skF R J h k (h * 6 + j) = R 19 (h * 6 + skS (k - skI R J h k) k j) := by
  have hp : skI R J h k ≤ k := fst_le _ _
  unfold skF updZ shr skS
  by_cases e : j = k - skI R J h k
  · rw [if_pos (by omega), if_neg (by omega), if_pos e]
  · rw [if_neg (by omega)]
    by_cases q : j < k - skI R J h k
    · rw [if_neg (by omega), if_pos q]
    · rw [if_neg q, if_neg e]
      by_cases q2 : j ≤ k
      · rw [if_pos (by omega), if_pos q2, show h * 6 + j - 1 = h * 6 + (j - 1) from by omega]
      · rw [if_neg (by omega), if_neg q2]
theorem skF_oth {R J : Nat → Nat → Int} {h k h2 j : Nat} (hk : k < 6) (hj : j < 6) (hne : ¬ h2 = h) : skF R J h k (h2 * 6 + j) = R 19 (h2 * 6 + j) := by
  have hp : skI R J h k ≤ k := fst_le _ _
  unfold skF updZ shr
  rw [if_neg (by omega), if_neg (by omega)]
theorem skS_lt {p k j m : Nat} (hp : p ≤ k) (hk : k < m) (hj : j < m) : skS p k j < m := by
  unfold skS
  repeat' split
  all_goals omega
theorem skS_inj {p k i j : Nat} (hp : p ≤ k) (e : skS p k i = skS p k j) : i = j := by
  unfold skS at e
  repeat' split at e
  all_goals omega
theorem skF_r {R J : Nat → Nat → Int} (hB : HB R) (h k : Nat) : ∀ j, -1 ≤ skF R J h k j ∧ skF R J h k j < 65536 := HB_upd (HB_shr (hB 19)) (hB 19 _)
theorem SI_sk {R J : Nat → Nat → Int} (hI : SI R) {h k : Nat} (hh : h < 6) (hk : k < shN R h) : SI (u2 R 19 (skF R J h k)) := by
  have hn := hI.hN h hh
  have hk2 : k < 6 := by unfold shN at hk; omega
  have hp : k - skI R J h k ≤ k := Nat.sub_le _ _
  refine SI_19 hI (skF_r hI.hB h k) (fun h2 j a1 a2 => ?_) (fun h1 j1 h2 j2 a1 a2 a3 a4 e => ?_)
  · by_cases q : h2 = h
    · subst q
      rw [skF_own]
      have := skS_lt (m := shN R h2) hp hk (j := j) (by unfold shN; omega)
      exact hI.on _ _ a1 (by unfold shN at this; omega)
    · rw [skF_oth hk2 (by have := hI.hN h2 a1; omega) q]
      exact hI.on _ _ a1 a2
  · by_cases q1 : h1 = h <;> by_cases q2 : h2 = h
    · subst q1; subst q2
      rw [skF_own, skF_own] at e
      have l1 := skS_lt (m := shN R h2) hp hk (j := j1) (by unfold shN; omega)
      have l2 := skS_lt (m := shN R h2) hp hk (j := j2) (by unfold shN; omega)
      unfold shN at l1 l2
      exact ⟨rfl, skS_inj hp (hI.one _ _ _ _ a1 a2 (by omega) (by omega) e).2⟩
    · subst q1
      rw [skF_own, skF_oth hk2 (by have := hI.hN h2 a2; omega) q2] at e
      have l1 := skS_lt (m := shN R h1) hp hk (j := j1) (by unfold shN; omega)
      unfold shN at l1
      exact absurd (hI.one _ _ _ _ a1 a2 (by omega) a4 e).1.symm q2
    · subst q2
      rw [skF_own, skF_oth hk2 (by have := hI.hN h1 a1; omega) q1] at e
      have l1 := skS_lt (m := shN R h2) hp hk (j := j2) (by unfold shN; omega)
      unfold shN at l1
      exact absurd (hI.one _ _ _ _ a1 a2 a3 (by omega) e).1 q1
    · rw [skF_oth hk2 (by have := hI.hN h1 a1; omega) q1, skF_oth hk2 (by have := hI.hN h2 a2; omega) q2] at e
      exact hI.one _ _ _ _ a1 a2 a3 a4 e
def srR (R J : Nat → Nat → Int) (h : Nat) : Nat → Nat → Nat → Int
  | 0 => R
  | i + 1 => if i = 0 then R else u2 (srR R J h i) 19 (skF (srR R J h i) J h i)
theorem srR_k (R J : Nat → Nat → Int) (h : Nat) {k : Nat} (hk : ¬ k = 19) : ∀ i, srR R J h i k = R k
  | 0 => rfl
  | i + 1 => by
    unfold srR
    split
    · rfl
    · unfold u2
      rw [if_neg hk, srR_k R J h hk i]
theorem srR_SI {R J : Nat → Nat → Int} (hI : SI R) {h : Nat} (hh : h < 6) : ∀ i, i ≤ shN R h → SI (srR R J h i)
  | 0, _ => hI
  | i + 1, hi => by
    unfold srR
    split
    · exact hI
    · have hS := srR_SI (J := J) hI hh i (by omega)
      exact SI_sk hS hh (by unfold shN; rw [srR_k R J h (by decide)]; exact hi)
theorem srR_1 (R J : Nat → Nat → Int) (h : Nat) : srR R J h 1 = R := rfl
theorem srR_s {R J : Nat → Nat → Int} {h i : Nat} (hi : 1 ≤ i) : u2 (srR R J h i) 19 (skF (srR R J h i) J h i) = srR R J h (i + 1) := by
  rw [srR, if_neg (by omega)]
def srtJ (R J : Nat → Nat → Int) : Nat → Nat → Int := u2 (seeJ R J) 5 (R 19)
def srtR (R J : Nat → Nat → Int) (h : Nat) : Nat → Nat → Int := srR R (srtJ R J) h (max 1 (shN R h))
theorem srtR_SI {R J : Nat → Nat → Int} (hI : SI R) {h : Nat} (hh : h < 6) : SI (srtR R J h) := by
  unfold srtR
  by_cases q : shN R h = 0
  · rw [q]; exact hI
  · exact srR_SI hI hh _ (by omega)
theorem srtJ_ok {R J : Nat → Nat → Int} (hI : SI R) (h : HB J) (hs : JSp J) : HB (srtJ R J) ∧ JSp (srtJ R J) := by
  have h1 := see_ok hI h hs
  exact ⟨HB_row h1.1 (hI.hB 19), JSp_u2 h1.2 (by omega)⟩
def srtN (R J : Nat → Nat → Int) (h : Nat) : Int := cnt (fun k => decide (¬ R 19 (h * 6 + k) = srtR R J h 19 (h * 6 + k))) (shN R h)
def aSort (R J : Nat → Nat → Int) (h : Int) : Int × (Nat → Nat → Int) × (Nat → Nat → Int) := if h < 0 ∨ 6 ≤ h then (-2, R, J) else (srtN R J h.toNat, srtR R J h.toNat, srtJ R J)
theorem f_ju2 (aj ad : Nat → Nat) (J J2 R R2 : Nat → Nat → Int) (τ : Nat → ClassId) : (juW aj J2 τ ++ stW ad R2 τ).map Prod.fst = (juW aj J τ ++ stW ad R τ).map Prod.fst := by
  have e : (stW ad R2 τ).map Prod.fst = (stW ad R τ).map Prod.fst := rfl
  rw [← f_ju aj ad J J2 R τ, List.map_append, List.map_append, e]

theorem cd_X1_sortShelf : cd yX1_sortShelf 2 := by decide +kernel
theorem in_X1_sortShelf_X1 : ∀ w ∈ wsX10, w ∈ wsX1_sortShelf := by decide +kernel
theorem in_X1_sortShelf_X5 : ∀ w ∈ wsX50, w ∈ wsX1_sortShelf := by decide +kernel
theorem in_X1_sortShelf_X6 : ∀ w ∈ wsX60, w ∈ wsX1_sortShelf := by decide +kernel
set_option maxHeartbeats 1000000 in
set_option maxRecDepth 100000 in
theorem c_X1_sortShelf (l : Launch) (g : va_G) (τ : Nat → ClassId) (ad aj : Nat → Nat) (R J : Nat → Nat → Int) (hI : SI R) (hjb : HB J) (hjs : JSp J) (h : Int) (rh : -2147483648 ≤ h ∧ h < 2147483648)  : Met l yX1_sortShelf wsX1_sortShelf { frames := 5, cells := 0, slots := 0, locals := 105 } (va_Pc [Value.ref (aj 0), Value.ref (ad 0), Value.int (iI h)] (rwW g τ (juW aj J τ ++ stW ad R τ))) (rwQ g (fun v w => v = some (Value.int (iI (aSort R J h).1)) ∧ w = juW aj (aSort R J h).2.2 τ ++ stW ad (aSort R J h).2.1 τ) (inW (juW aj J τ ++ stW ad R τ))) 0 0 (inW (juW aj J τ ++ stW ad R τ)) := by
  have hB := hI.hB
  have hr0 := hI.r
  have hd0 := hI.d
  have hs0 := hI.s
  have hN := hI.hN
  refine rwMet (cc := cX1_sortShelf) (maxL := 5) (ret := (some .int)) (lv := [(0, Value.ref (aj 0)), (1, Value.ref (ad 0)), (2, Value.int (iI h))]) (by decide) rfl (Nat.le_of_ble_eq_true rfl) rfl ?_
  intro p e s m below meth c hx hb hr hml hts hown hlocks A H hP hD hS hK ls hl
  have hJ := va_left hP
  have hT := va_right hP
  refine lv_iload_n hx hb dX1_sortShelf_0 rfl (lv_at hl 2 rfl) ?_
  refine ro_SN (As := [Value.int (iI h)]) (rest := []) (v := some (Value.int (iI (zB (decide (0 ≤ h ∧ h < 6)))))) ⟨hx, hb, hml, hown, hts⟩ (c_X9_isShelf l g τ h ⟨by omega, by omega⟩) gX1_sortShelf_X9_isShelf_n165 cd_X9_isShelf rfl ⟨rfl, rfl⟩ ⟨Nat.le_of_ble_eq_true rfl, Nat.le_of_ble_eq_true rfl⟩ hK (by decide +kernel) (List.mem_of_getElem? (i := 10) rfl) (List.mem_of_getElem? (i := 9) rfl) (fun _ _ h => by cases h) rfl hl rfl (Nat.le_of_ble_eq_true rfl) dX1_sortShelf_1 ⟨Nat.le_of_ble_eq_true rfl, Nat.le_of_ble_eq_true rfl⟩ ?_
  refine tl_some ?_
  refine zb_if_ne (tgt := 10) hx hb dX1_sortShelf_4 (by decide) (fun c_1 => ?_) (fun c_1 => ?_)
  · have cd_c_1 := of_decide_eq_true c_1
    have hm := hI.hN h.toNat (by omega)
    have hsd : shN R h.toNat = (R 18 h.toNat).toNat := rfl
    have hjs2 := srtJ_ok hI hjb hjs
    have hss := see_ok hI hjb hjs
    have e_h : h = ((h.toNat : Nat) : Int) := by omega
    refine lv_aload_n hx hb dX1_sortShelf_10 rfl (lv_at hl 0 rfl) ?_
    refine lv_aload_n hx hb dX1_sortShelf_11 rfl (lv_at hl 1 rfl) ?_
    refine rw_V (As := [Value.ref (ad 0)]) (rest := []) ⟨hx, hb, hml, hown, hts⟩ (c_X1_look l g τ ad aj R J hI hjb hjs) gX1_sortShelf_X1_look cd_X1_look rfl rfl ⟨rfl, rfl⟩ ⟨Nat.le_of_ble_eq_true rfl, Nat.le_of_ble_eq_true rfl⟩ hK hP hD hS [0, 1, 2, 3, 4, 5, 6, 7, 8, 9, 10, 11, 12, 13, 14, 15, 16, 17, 18, 19, 20, 21, 22, 23, 24, 25, 26, 27, 28, 29, 30, 31, 32, 33, 34, 35, 36, 37, 38, 39, 40, 41, 42, 43, 44, 45, 46, 47, 48, 49, 50, 51, 52, 53, 54, 55, 56, 57] (full_C _ _ _ _ _) ((by decide)) 0 rfl rfl rfl rfl hl rfl (Nat.le_of_ble_eq_true rfl) dX1_sortShelf_12 ⟨Nat.le_of_ble_eq_true rfl, Nat.le_of_ble_eq_true rfl⟩ (fun v w h => by rw [h.2]; exact f_ju _ _ _ _ _ _) (fun v w1 H locs hZ hP hD hS => ?_)
    obtain ⟨rfl, rfl⟩ := hZ
    rw [full_r] at hP hD
    have hP : va_P g vwCl (juW aj (seeJ R J) τ ++ stW ad R τ) H := hP
    have hD : va_D A (juW aj (seeJ R J) τ ++ stW ad R τ) := hD
    have hJ := va_left hP
    have hT := va_right hP
    refine tl_none ?_
    refine lv_iconst (v := iI 0) hx hb dX1_sortShelf_15 (by decide) ?_
    refine lv_istore_n (lv' := [(3, Value.int (iI 0)), (0, Value.ref (aj 0)), (1, Value.ref (ad 0)), (2, Value.int (iI h))]) hx hb dX1_sortShelf_16 rfl hl (by decide) rfl (fun ls hl => ?_)
    refine lv_aload_n hx hb dX1_sortShelf_17 rfl (lv_at hl 2 rfl) ?_
    refine va_get (D := g) (ci := 6) (v := Value.ref (ad 17)) (C := RX6) (T := TX6) (N := 5) hx hb hts in_X1_sortShelf_X6 hown hK.1 hT 0 (rfl) rfl 3 (by decide) (hts _ (List.mem_of_getElem? (i := 1) rfl) : (Cond.fieldLink RX1 154 "CordSeals$State" "shelves" "LCordSeals$Shelves;").before _ s = true) (fun _ h9 => h9) rfl dX1_sortShelf_18 ?_
    refine va_get (D := g) (ci := 5) (v := Value.ref (ad 19)) (C := RX5) (T := TX5) (N := 2) hx hb hts in_X1_sortShelf_X5 hown hK.1 hT 17 (rfl) rfl 1 (by decide) (hts _ (List.mem_of_getElem? (i := 2) rfl) : (Cond.fieldLink RX1 169 "CordSeals$Shelves" "seals" "[I").before _ s = true) (fun _ h9 => h9) rfl dX1_sortShelf_21 ?_
    refine lv_iconst (v := iI 0) hx hb dX1_sortShelf_24 (by decide) ?_
    refine lv_aload_n hx hb dX1_sortShelf_25 rfl (lv_at hl 1 rfl) ?_
    refine va_get (D := g) (ci := 1) (v := Value.ref (aj 5)) (C := RX1) (T := TX1) (N := 6) hx hb hts in_X1_sortShelf_X1 hown hK.1 hJ 0 (rfl) rfl 4 (by decide) (hts _ (List.mem_of_getElem? (i := 3) rfl) : (Cond.fieldLink RX1 27 "CordSeals$Judge" "before" "[I").before _ s = true) (fun _ h9 => h9) rfl dX1_sortShelf_26 ?_
    refine lv_iconst (v := iI 0) hx hb dX1_sortShelf_29 (by decide) ?_
    refine lv_bipush (v := iI 36) hx hb dX1_sortShelf_30 (by decide) ?_
    refine zi_copy hx hb (hml.trans hl.1.symm) hown (hts _ (List.mem_of_getElem? (i := 4) rfl)) (hts _ (List.mem_of_getElem? (i := 5) rfl)) (hts _ (List.mem_of_getElem? (i := 6) rfl)) (hts _ (List.mem_of_getElem? (i := 7) rfl)) hK hP hD hS (37 + 19) 5 (f := (R 19)) (f1 := ((seeJ R J) 5)) ((jst_at 19).trans rfl) rfl (N := 36) (by decide) (by decide) (Nat.le_of_ble_eq_true rfl) (Nat.le_of_ble_eq_true rfl) dX1_sortShelf_32 (wo := juW aj (u2 (seeJ R J) 5 (R 19)) τ ++ stW ad R τ) (s_j5 _ _ _ _ _) (fun H locs hP hD hS => ?_)
    have hJ := va_left hP
    have hT := va_right hP
    refine lv_iconst (v := iI 1) hx hb dX1_sortShelf_35 (by decide) ?_
    refine lv_istore (lv' := [(4, Value.int (iI 1)), (3, Value.int (iI 0)), (0, Value.ref (aj 0)), (1, Value.ref (ad 0)), (2, Value.int (iI h))]) hx hb dX1_sortShelf_36 hl (by decide) rfl (fun ls hl => ?_)
    have hP : va_P g vwCl (juW aj (srtJ R J) τ ++ stW ad (srR R (srtJ R J) h.toNat 1) τ) H := by first | exact hP | (exact hP)
    have hD : va_D A (juW aj (srtJ R J) τ ++ stW ad (srR R (srtJ R J) h.toNat 1) τ) := by first | exact hD | (exact hD)
    refine lp_upW (fun i => [(4, Value.int (iI (i : Int))), (3, Value.int (iI 0)), (0, Value.ref (aj 0)), (1, Value.ref (ad 0)), (2, Value.int (iI h))]) (fun i => juW aj (srtJ R J) τ ++ stW ad (srR R (srtJ R J) h.toNat i) τ) (fun i => True) (max 1 (shN R h.toNat)) (1) (by omega) hP hD hS (by first | trivial | (intro j hj; omega)) (lv_eq (lv_sub hl [0, 1, 2, 3, 4] rfl) (by show [(4, Value.int (iI 1)), (3, Value.int (iI 0)), (0, Value.ref (aj 0)), (1, Value.ref (ad 0)), (2, Value.int (iI h))] = [(4, Value.int (iI 1)), (3, Value.int (iI 0)), (0, Value.ref (aj 0)), (1, Value.ref (ad 0)), (2, Value.int (iI h))]; rfl)) (fun i h0_i hi_i hI_i ih_38 H locs hP hD hS ls hl => ?_)
    have hJ := va_left hP
    have hT := va_right hP
    have hnk : srR R (srtJ R J) h.toNat i 18 = R 18 := srR_k R (srtJ R J) h.toNat (by decide) i
    have hnk2 := congrFun hnk h.toNat
    refine lv_iload hx hb dX1_sortShelf_38 (lv_at hl 0 rfl) ?_
    refine lv_aload_n hx hb dX1_sortShelf_40 rfl (lv_at hl 3 rfl) ?_
    refine va_get (D := g) (ci := 6) (v := Value.ref (ad 17)) (C := RX6) (T := TX6) (N := 5) hx hb hts in_X1_sortShelf_X6 hown hK.1 hT 0 (rfl) rfl 3 (by decide) (hts _ (List.mem_of_getElem? (i := 1) rfl) : (Cond.fieldLink RX1 154 "CordSeals$State" "shelves" "LCordSeals$Shelves;").before _ s = true) (fun _ h9 => h9) rfl dX1_sortShelf_41 ?_
    refine va_get (D := g) (ci := 5) (v := Value.ref (ad 18)) (C := RX5) (T := TX5) (N := 2) hx hb hts in_X1_sortShelf_X5 hown hK.1 hT 17 (rfl) rfl 0 (by decide) (hts _ (List.mem_of_getElem? (i := 8) rfl) : (Cond.fieldLink RX1 158 "CordSeals$Shelves" "count" "[I").before _ s = true) (fun _ h9 => h9) rfl dX1_sortShelf_44 ?_
    refine lv_iload_n hx hb dX1_sortShelf_47 rfl (lv_at hl 4 rfl) ?_
    refine zi_ald hx hb hK hT 18 (f := ((srR R (srtJ R J) h.toNat i) 18)) (rfl) (h.toNat) (e_h) (by omega) (by decide) dX1_sortShelf_48 ?_
    refine zi_icmp_ge (tgt := 66) hx hb ⟨by omega, by omega⟩ ⟨by omega, by omega⟩ dX1_sortShelf_49 (by decide) (fun c_2 => ?_) (fun c_2 => ?_)
    · have _ := c_2
      have h0_i : i = max 1 (shN R h.toNat) := by omega
      have hfin : srR R (srtJ R J) h.toNat i = srtR R J h.toNat := by unfold srtR; rw [h0_i]
      rw [hfin] at hP hD hT
      have hB2 := (srtR_SI (J := J) hI (h := h.toNat) (by omega)).hB
      have hr18 : srtR R J h.toNat 18 = R 18 := srR_k R (srtJ R J) h.toNat (by decide) _
      have hr182 := congrFun hr18 h.toNat
      refine lv_iconst (v := iI 0) hx hb dX1_sortShelf_66 (by decide) ?_
      refine lv_istore (lv' := [(4, Value.int (iI 0)), (3, Value.int (iI 0)), (0, Value.ref (aj 0)), (1, Value.ref (ad 0)), (2, Value.int (iI h))]) hx hb dX1_sortShelf_67 hl (by decide) rfl (fun ls hl => ?_)
      have h0_3 : cnt (fun k => decide (¬ R 19 (h.toNat * 6 + k) = srtR R J h.toNat 19 (h.toNat * 6 + k))) 0 = 0 := by first | rfl | omega | (simp [c_1, c_2, h0_i]; done)
      refine lp_up (fun k => [(4, Value.int (iI (k : Int))), (3, Value.int (iI (cnt (fun k => decide (¬ R 19 (h.toNat * 6 + k) = srtR R J h.toNat 19 (h.toNat * 6 + k))) k))), (0, Value.ref (aj 0)), (1, Value.ref (ad 0)), (2, Value.int (iI h))]) (fun k => True) (shN R h.toNat) (0) (by omega) (by first | trivial | (intro j hj; omega)) (lv_eq (lv_sub hl [0, 1, 2, 3, 4] rfl) (by show [(4, Value.int (iI 0)), (3, Value.int (iI (cnt (fun k => decide (¬ R 19 (h.toNat * 6 + k) = srtR R J h.toNat 19 (h.toNat * 6 + k))) 0))), (0, Value.ref (aj 0)), (1, Value.ref (ad 0)), (2, Value.int (iI h))] = [(4, Value.int (iI 0)), (3, Value.int (iI 0)), (0, Value.ref (aj 0)), (1, Value.ref (ad 0)), (2, Value.int (iI h))]; rw [h0_3])) (fun k h0_k hi_k hI_k ih_69 ls hl => ?_)
      refine lv_iload hx hb dX1_sortShelf_69 (lv_at hl 0 rfl) ?_
      refine lv_aload_n hx hb dX1_sortShelf_71 rfl (lv_at hl 3 rfl) ?_
      refine va_get (D := g) (ci := 6) (v := Value.ref (ad 17)) (C := RX6) (T := TX6) (N := 5) hx hb hts in_X1_sortShelf_X6 hown hK.1 hT 0 (rfl) rfl 3 (by decide) (hts _ (List.mem_of_getElem? (i := 1) rfl) : (Cond.fieldLink RX1 154 "CordSeals$State" "shelves" "LCordSeals$Shelves;").before _ s = true) (fun _ h9 => h9) rfl dX1_sortShelf_72 ?_
      refine va_get (D := g) (ci := 5) (v := Value.ref (ad 18)) (C := RX5) (T := TX5) (N := 2) hx hb hts in_X1_sortShelf_X5 hown hK.1 hT 17 (rfl) rfl 0 (by decide) (hts _ (List.mem_of_getElem? (i := 8) rfl) : (Cond.fieldLink RX1 158 "CordSeals$Shelves" "count" "[I").before _ s = true) (fun _ h9 => h9) rfl dX1_sortShelf_75 ?_
      refine lv_iload_n hx hb dX1_sortShelf_78 rfl (lv_at hl 4 rfl) ?_
      refine zi_ald hx hb hK hT 18 (f := ((srtR R J h.toNat) 18)) (rfl) (h.toNat) (e_h) (by omega) (by decide) dX1_sortShelf_79 ?_
      refine zi_icmp_ge (tgt := 117) hx hb ⟨by omega, by omega⟩ ⟨by omega, by omega⟩ dX1_sortShelf_80 (by decide) (fun c_4 => ?_) (fun c_4 => ?_)
      · have _ := c_4
        have h0_k : k = shN R h.toNat := by omega
        refine lv_iload_n hx hb dX1_sortShelf_117 rfl (lv_at hl 1 rfl) ?_
        exact rw_iret hx hb hr hlocks hP hS (⟨by rw [aSort, if_neg (by omega), h0_k]; rfl, by rw [aSort, if_neg (by omega)]⟩) dX1_sortShelf_118
      · have _ := c_4
        have hl_k : k < shN R h.toNat := by omega
        have hq1 := hB 19 (h.toNat * 6 + k)
        have hq2 := hB2 19 (h.toNat * 6 + k)
        refine lv_aload_n hx hb dX1_sortShelf_83 rfl (lv_at hl 2 rfl) ?_
        refine va_get (D := g) (ci := 1) (v := Value.ref (aj 5)) (C := RX1) (T := TX1) (N := 6) hx hb hts in_X1_sortShelf_X1 hown hK.1 hJ 0 (rfl) rfl 4 (by decide) (hts _ (List.mem_of_getElem? (i := 3) rfl) : (Cond.fieldLink RX1 27 "CordSeals$Judge" "before" "[I").before _ s = true) (fun _ h9 => h9) rfl dX1_sortShelf_84 ?_
        refine lv_iload_n hx hb dX1_sortShelf_87 rfl (lv_at hl 4 rfl) ?_
        refine cv_i (y := iI ((h.toNat : Nat) : Int)) (congrArg iI (by omega)) ?_
        refine lv_bipush (v := iI 6) hx hb dX1_sortShelf_88 (by decide) ?_
        refine zi_mul hx hb dX1_sortShelf_90 ?_
        refine lv_iload hx hb dX1_sortShelf_91 (lv_at hl 0 rfl) ?_
        refine zi_add hx hb dX1_sortShelf_93 ?_
        refine zi_ald hx hb hK hJ 5 (f := (R 19)) (rfl) ((h.toNat * 6) + k) (by omega) (by omega) (by decide) dX1_sortShelf_94 ?_
        have hb_5 := hB 19 ((h.toNat * 6) + k)
        refine lv_aload_n hx hb dX1_sortShelf_95 rfl (lv_at hl 3 rfl) ?_
        refine va_get (D := g) (ci := 6) (v := Value.ref (ad 17)) (C := RX6) (T := TX6) (N := 5) hx hb hts in_X1_sortShelf_X6 hown hK.1 hT 0 (rfl) rfl 3 (by decide) (hts _ (List.mem_of_getElem? (i := 1) rfl) : (Cond.fieldLink RX1 154 "CordSeals$State" "shelves" "LCordSeals$Shelves;").before _ s = true) (fun _ h9 => h9) rfl dX1_sortShelf_96 ?_
        refine lv_iload_n hx hb dX1_sortShelf_99 rfl (lv_at hl 4 rfl) ?_
        refine cv_i (y := iI ((h.toNat : Nat) : Int)) (congrArg iI (by omega)) ?_
        refine lv_iload hx hb dX1_sortShelf_100 (lv_at hl 0 rfl) ?_
        refine ro_V (As := [Value.int (iI ((h.toNat : Nat) : Int)), Value.int (iI (k : Int))]) (rest := [Value.int (iI (R 19 ((h.toNat * 6) + k)))]) (v := some (Value.int (iI (((srtR R J h.toNat) 19) (h.toNat * 6 + k))))) ⟨hx, hb, hml, hown, hts⟩ (c_X5_at l g τ ad (srtR R J h.toNat) h.toNat k (by omega) (by omega)) gX1_sortShelf_X5_at cd_X5_at rfl rfl ⟨rfl, rfl⟩ ⟨Nat.le_of_ble_eq_true rfl, Nat.le_of_ble_eq_true rfl⟩ hK (hT.sub [17, 18, 19] rfl) 0 rfl rfl rfl rfl hl rfl (Nat.le_of_ble_eq_true rfl) dX1_sortShelf_102 ⟨Nat.le_of_ble_eq_true rfl, Nat.le_of_ble_eq_true rfl⟩ ?_
        refine tl_some ?_
        refine zi_icmp_eq (tgt := 111) hx hb ⟨by omega, by omega⟩ ⟨by omega, by omega⟩ dX1_sortShelf_105 (by decide) (fun c_6 => ?_) (fun c_6 => ?_)
        · have _ := c_6
          refine zi_inc (v := ((k + 1 : Nat) : Int)) (lv' := [(4, Value.int (iI ((k + 1 : Nat) : Int))), (3, Value.int (iI (cnt (fun k => decide (¬ R 19 (h.toNat * 6 + k) = srtR R J h.toNat 19 (h.toNat * 6 + k))) k))), (0, Value.ref (aj 0)), (1, Value.ref (ad 0)), (2, Value.int (iI h))]) hx hb dX1_sortShelf_111 hl (k := 0) rfl (by omega) (by decide) rfl (fun ls hl => ?_)
          refine lv_goto (tgt := 69) hx hb dX1_sortShelf_114 (by decide) ?_
          have hb_7 : (((k + 1) : Nat) : Int) = ((k + 1 : Nat) : Int) := by first | rfl | omega | (simp [c_1, c_2, h0_i, c_4, c_6]; done)
          have hb_8 : cnt (fun k => decide (¬ R 19 (h.toNat * 6 + k) = srtR R J h.toNat 19 (h.toNat * 6 + k))) (k + 1) = cnt (fun k => decide (¬ R 19 (h.toNat * 6 + k) = srtR R J h.toNat 19 (h.toNat * 6 + k))) k := by first | exact cnt_t (by exact decide_eq_true (by assumption)) | exact cnt_f (by exact decide_eq_false (fun z => z (by assumption)))
          exact ih_69 hl_k (trivial) _ (lv_eq (lv_sub hl [0, 1, 2, 3, 4] rfl) (by show [(4, Value.int (iI (((k + 1) : Nat) : Int))), (3, Value.int (iI (cnt (fun k => decide (¬ R 19 (h.toNat * 6 + k) = srtR R J h.toNat 19 (h.toNat * 6 + k))) (k + 1)))), (0, Value.ref (aj 0)), (1, Value.ref (ad 0)), (2, Value.int (iI h))] = [(4, Value.int (iI ((k + 1 : Nat) : Int))), (3, Value.int (iI (cnt (fun k => decide (¬ R 19 (h.toNat * 6 + k) = srtR R J h.toNat 19 (h.toNat * 6 + k))) k))), (0, Value.ref (aj 0)), (1, Value.ref (ad 0)), (2, Value.int (iI h))]; rw [hb_7, hb_8]))
        · have _ := c_6
          refine zi_inc (v := (cnt (fun k => decide (¬ R 19 (h.toNat * 6 + k) = srtR R J h.toNat 19 (h.toNat * 6 + k))) k) + 1) (lv' := [(3, Value.int (iI ((cnt (fun k => decide (¬ R 19 (h.toNat * 6 + k) = srtR R J h.toNat 19 (h.toNat * 6 + k))) k) + 1))), (4, Value.int (iI (k : Int))), (0, Value.ref (aj 0)), (1, Value.ref (ad 0)), (2, Value.int (iI h))]) hx hb dX1_sortShelf_108 hl (k := 1) rfl rfl (by decide) rfl (fun ls hl => ?_)
          refine zi_inc (v := ((k + 1 : Nat) : Int)) (lv' := [(4, Value.int (iI ((k + 1 : Nat) : Int))), (3, Value.int (iI ((cnt (fun k => decide (¬ R 19 (h.toNat * 6 + k) = srtR R J h.toNat 19 (h.toNat * 6 + k))) k) + 1))), (0, Value.ref (aj 0)), (1, Value.ref (ad 0)), (2, Value.int (iI h))]) hx hb dX1_sortShelf_111 hl (k := 1) rfl (by omega) (by decide) rfl (fun ls hl => ?_)
          refine lv_goto (tgt := 69) hx hb dX1_sortShelf_114 (by decide) ?_
          have hb_9 : (((k + 1) : Nat) : Int) = ((k + 1 : Nat) : Int) := by first | rfl | omega | (simp [c_1, c_2, h0_i, c_4, c_6]; done)
          have hb_10 : cnt (fun k => decide (¬ R 19 (h.toNat * 6 + k) = srtR R J h.toNat 19 (h.toNat * 6 + k))) (k + 1) = (cnt (fun k => decide (¬ R 19 (h.toNat * 6 + k) = srtR R J h.toNat 19 (h.toNat * 6 + k))) k) + 1 := by first | exact cnt_t (by exact decide_eq_true (by assumption)) | exact cnt_f (by exact decide_eq_false (fun z => z (by assumption)))
          exact ih_69 hl_k (trivial) _ (lv_eq (lv_sub hl [0, 1, 2, 3, 4] rfl) (by show [(4, Value.int (iI (((k + 1) : Nat) : Int))), (3, Value.int (iI (cnt (fun k => decide (¬ R 19 (h.toNat * 6 + k) = srtR R J h.toNat 19 (h.toNat * 6 + k))) (k + 1)))), (0, Value.ref (aj 0)), (1, Value.ref (ad 0)), (2, Value.int (iI h))] = [(4, Value.int (iI ((k + 1 : Nat) : Int))), (3, Value.int (iI ((cnt (fun k => decide (¬ R 19 (h.toNat * 6 + k) = srtR R J h.toNat 19 (h.toNat * 6 + k))) k) + 1))), (0, Value.ref (aj 0)), (1, Value.ref (ad 0)), (2, Value.int (iI h))]; rw [hb_9, hb_10]))
    · have _ := c_2
      have hl_i : i < max 1 (shN R h.toNat) := by omega
      have hsi := srR_SI (J := srtJ R J) hI (h := h.toNat) (by omega) i (by omega)
      have hrow : ∀ j, j ≤ i → 0 ≤ srR R (srtJ R J) h.toNat i 19 (h.toNat * 6 + j) ∧ srR R (srtJ R J) h.toNat i 19 (h.toNat * 6 + j) < 24 := fun j hj => by have hx1 := hsi.on h.toNat j (by omega) (by rw [hnk]; omega); have hx2 := hsi.s; omega
      refine lv_aload_n hx hb dX1_sortShelf_52 rfl (lv_at hl 2 rfl) ?_
      refine lv_aload_n hx hb dX1_sortShelf_53 rfl (lv_at hl 3 rfl) ?_
      refine lv_iload_n hx hb dX1_sortShelf_54 rfl (lv_at hl 4 rfl) ?_
      refine cv_i (y := iI ((h.toNat : Nat) : Int)) (congrArg iI (by omega)) ?_
      refine lv_iload hx hb dX1_sortShelf_55 (lv_at hl 0 rfl) ?_
      refine rw_V (As := [Value.ref (ad 0), Value.int (iI ((h.toNat : Nat) : Int)), Value.int (iI (i : Int))]) (rest := []) ⟨hx, hb, hml, hown, hts⟩ (c_X1_sinkIn l g τ ad aj (srR R (srtJ R J) h.toNat i) (srtJ R J) hsi.hB hjs2.1 h.toNat i (by omega) (by omega) hrow) gX1_sortShelf_X1_sinkIn cd_X1_sinkIn rfl rfl ⟨rfl, rfl⟩ ⟨Nat.le_of_ble_eq_true rfl, Nat.le_of_ble_eq_true rfl⟩ hK hP hD hS [0, 1, 2, 3, 4, 5, 6, 7, 8, 9, 10, 11, 12, 13, 14, 15, 16, 17, 18, 19, 20, 21, 22, 23, 24, 25, 26, 27, 28, 29, 30, 31, 32, 33, 34, 35, 36, 37, 38, 39, 40, 41, 42, 43, 44, 45, 46, 47, 48, 49, 50, 51, 52, 53, 54, 55, 56, 57] (full_C _ _ _ _ _) ((by decide)) 0 rfl rfl rfl rfl hl rfl (Nat.le_of_ble_eq_true rfl) dX1_sortShelf_57 ⟨Nat.le_of_ble_eq_true rfl, Nat.le_of_ble_eq_true rfl⟩ (fun v w h => by rw [h.2]; exact f_ju2 _ _ _ _ _ _ _) (fun v w1 H locs hZ hP hD hS => ?_)
      obtain ⟨rfl, rfl⟩ := hZ
      rw [full_r] at hP hD
      have hP : va_P g vwCl (juW aj (srtJ R J) τ ++ stW ad (u2 (srR R (srtJ R J) h.toNat i) 19 (skF (srR R (srtJ R J) h.toNat i) (srtJ R J) h.toNat i)) τ) H := hP
      have hD : va_D A (juW aj (srtJ R J) τ ++ stW ad (u2 (srR R (srtJ R J) h.toNat i) 19 (skF (srR R (srtJ R J) h.toNat i) (srtJ R J) h.toNat i)) τ) := hD
      have hJ := va_left hP
      have hT := va_right hP
      refine tl_none ?_
      refine zi_inc (v := ((i + 1 : Nat) : Int)) (lv' := [(4, Value.int (iI ((i + 1 : Nat) : Int))), (3, Value.int (iI 0)), (0, Value.ref (aj 0)), (1, Value.ref (ad 0)), (2, Value.int (iI h))]) hx hb dX1_sortShelf_60 hl (k := 0) rfl (by omega) (by decide) rfl (fun ls hl => ?_)
      refine lv_goto (tgt := 38) hx hb dX1_sortShelf_63 (by decide) ?_
      have hb_11 : (((i + 1) : Nat) : Int) = ((i + 1 : Nat) : Int) := by first | rfl | omega | (simp [c_1, c_2]; done)
      have hw_12 : juW aj (srtJ R J) τ ++ stW ad (u2 (srR R (srtJ R J) h.toNat i) 19 (skF (srR R (srtJ R J) h.toNat i) (srtJ R J) h.toNat i)) τ = juW aj (srtJ R J) τ ++ stW ad (srR R (srtJ R J) h.toNat (i + 1)) τ := congrArg (fun z => juW aj (srtJ R J) τ ++ stW ad z τ) (srR_s (by omega))
      rw [hw_12] at hP hD
      exact ih_38 hl_i (trivial) _ _ _ hP hD hS (lv_eq (lv_sub hl [0, 1, 2, 3, 4] rfl) (by show [(4, Value.int (iI (((i + 1) : Nat) : Int))), (3, Value.int (iI 0)), (0, Value.ref (aj 0)), (1, Value.ref (ad 0)), (2, Value.int (iI h))] = [(4, Value.int (iI ((i + 1 : Nat) : Int))), (3, Value.int (iI 0)), (0, Value.ref (aj 0)), (1, Value.ref (ad 0)), (2, Value.int (iI h))]; rw [hb_11]))
  · have cd_c_1 := of_decide_eq_false c_1
    refine lv_bipush (v := iI (-2)) hx hb dX1_sortShelf_7 (by decide) ?_
    exact rw_iret hx hb hr hlocks hP hS (⟨by rw [aSort, if_pos (by omega)], by rw [aSort, if_pos (by omega)]⟩) dX1_sortShelf_9
