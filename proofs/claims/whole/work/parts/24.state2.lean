theorem f_sh (ad : Nat → Nat) (R RR : Nat → Nat → Int) (τ : Nat → ClassId) : (shW ad RR τ).map Prod.fst = (shW ad R τ).map Prod.fst := rfl
theorem b_sh (ad : Nat → Nat) (R RR : Nat → Nat → Int) (τ : Nat → ClassId) : va_repl (stW ad R τ) ([17, 18, 19].zip (shW ad RR τ)) = stW ad (u2 (u2 R 18 (RR 18)) 19 (RR 19)) τ := rfl
theorem inR_eq (R : Nat → Nat → Int) (h k : Nat) (z : Int) : u2 (u2 R 18 (inR R h k z 18)) 19 (inR R h k z 19) = inR R h k z := by
  unfold inR
  funext j
  by_cases h1 : j = 19
  · subst h1; rfl
  · by_cases h2 : j = 18
    · subst h2; rfl
    · simp only [u2, if_neg h1, if_neg h2]
theorem me_eq (R : Nat → Nat → Int) (f : Nat → Int) : u2 (u2 R 18 (u2 R 18 f 18)) 19 (u2 R 18 f 19) = u2 R 18 f := by
  funext j
  by_cases h1 : j = 19
  · subst h1; rfl
  · by_cases h2 : j = 18
    · subst h2; rfl
    · simp only [u2, if_neg h1, if_neg h2]
theorem f2_X3_copy (ad ad2 : Nat → Nat) (R RR : Nat → Nat → Int) (τ : Nat → ClassId) : (rgW ad RR τ ++ rgW ad2 RR τ).map Prod.fst = (rgW ad R τ ++ rgW ad2 RR τ).map Prod.fst := rfl
theorem b2_X3_copy (ad ad2 : Nat → Nat) (R RR : Nat → Nat → Int) (τ : Nat → ClassId) : va_repl (stW ad R τ ++ stW ad2 RR τ) ([1, 2, 3, 22, 23, 24].zip (rgW ad RR τ ++ rgW ad2 RR τ)) = stW ad (u2 (u2 (u2 R 1 (RR 1)) 2 (RR 2)) 3 (RR 3)) τ ++ stW ad2 RR τ := rfl
theorem f2_X0_copy (ad ad2 : Nat → Nat) (R RR : Nat → Nat → Int) (τ : Nat → ClassId) : (dsW ad RR τ ++ dsW ad2 RR τ).map Prod.fst = (dsW ad R τ ++ dsW ad2 RR τ).map Prod.fst := rfl
theorem b2_X0_copy (ad ad2 : Nat → Nat) (R RR : Nat → Nat → Int) (τ : Nat → ClassId) : va_repl (stW ad R τ ++ stW ad2 RR τ) ([4, 5, 6, 7, 8, 9, 25, 26, 27, 28, 29, 30].zip (dsW ad RR τ ++ dsW ad2 RR τ)) = stW ad (u2 (u2 (u2 (u2 (u2 (u2 R 4 (RR 4)) 5 (RR 5)) 6 (RR 6)) 7 (RR 7)) 8 (RR 8)) 9 (RR 9)) τ ++ stW ad2 RR τ := rfl
theorem f2_X4_copy (ad ad2 : Nat → Nat) (R RR : Nat → Nat → Int) (τ : Nat → ClassId) : (slW ad RR τ ++ slW ad2 RR τ).map Prod.fst = (slW ad R τ ++ slW ad2 RR τ).map Prod.fst := rfl
theorem b2_X4_copy (ad ad2 : Nat → Nat) (R RR : Nat → Nat → Int) (τ : Nat → ClassId) : va_repl (stW ad R τ ++ stW ad2 RR τ) ([10, 11, 12, 13, 14, 15, 16, 31, 32, 33, 34, 35, 36, 37].zip (slW ad RR τ ++ slW ad2 RR τ)) = stW ad (u2 (u2 (u2 (u2 (u2 (u2 (u2 R 10 (RR 10)) 11 (RR 11)) 12 (RR 12)) 13 (RR 13)) 14 (RR 14)) 15 (RR 15)) 16 (RR 16)) τ ++ stW ad2 RR τ := rfl
theorem f2_X5_copy (ad ad2 : Nat → Nat) (R RR : Nat → Nat → Int) (τ : Nat → ClassId) : (shW ad RR τ ++ shW ad2 RR τ).map Prod.fst = (shW ad R τ ++ shW ad2 RR τ).map Prod.fst := rfl
theorem b2_X5_copy (ad ad2 : Nat → Nat) (R RR : Nat → Nat → Int) (τ : Nat → ClassId) : va_repl (stW ad R τ ++ stW ad2 RR τ) ([17, 18, 19, 38, 39, 40].zip (shW ad RR τ ++ shW ad2 RR τ)) = stW ad (u2 (u2 R 18 (RR 18)) 19 (RR 19)) τ ++ stW ad2 RR τ := rfl

theorem plI_mn {R : Nat → Nat → Int} {h : Nat} {t : Int} (q : pOn R h t < shN R h) : R 19 (h * 6 + pOn R h t) = t := of_decide_eq_true (fst_lt (p := onS R h t) q)
theorem sOf_lt {R : Nat → Nat → Int} {t : Int} (q : sOf R t < 6) : pOn R (sOf R t) t < shN R (sOf R t) := of_decide_eq_true (fst_lt (p := fun h => decide (pOn R h t < shN R h)) q)
theorem sOf_of {R : Nat → Nat → Int} {t : Int} {h : Nat} (hh : h < 6) (q : pOn R h t < shN R h) : sOf R t < 6 := by
  rcases Nat.lt_or_ge (sOf R t) 6 with z | z
  · exact z
  · have h2 := fst_before (p := fun h => decide (pOn R h t < shN R h)) (n := 6) (j := h) (Nat.lt_of_lt_of_le hh z)
    simp at h2
    omega
theorem sOf_is {R : Nat → Nat → Int} (hI : SI R) {t : Int} {h : Nat} (hh : h < 6) (q : pOn R h t < shN R h) : sOf R t = h := by
  have h1 := sOf_of hh q
  have h2 := sOf_lt h1
  have e1 := plI_mn h2
  have e2 := plI_mn q
  have hn := hI.hN (sOf R t) h1
  have hn2 := hI.hN h hh
  have a1 : ((pOn R (sOf R t) t : Nat) : Int) < R 18 (sOf R t) := by unfold shN at h2; omega
  have a2 : ((pOn R h t : Nat) : Int) < R 18 h := by unfold shN at q; omega
  exact (hI.one _ _ _ _ h1 hh a1 a2 (e1.trans e2.symm)).1
theorem rmR_eq (R : Nat → Nat → Int) (t : Int) : u2 (u2 R 18 (rmR R t 18)) 19 (rmR R t 19) = rmR R t := by
  unfold rmR
  split
  · funext k
    by_cases h1 : k = 19
    · subst h1; rfl
    · by_cases h2 : k = 18
      · subst h2; rfl
      · simp only [u2, if_neg h1, if_neg h2]
  · funext k
    by_cases h1 : k = 19
    · subst h1; rfl
    · by_cases h2 : k = 18
      · subst h2; rfl
      · simp only [u2, if_neg h1, if_neg h2]
theorem rm_18 {R : Nat → Nat → Int} (hI : SI R) {t : Int} {h : Nat} (hh : h < 6) : rmR R t 18 h = oth R h t := by
  unfold oth
  by_cases q : pOn R h t < shN R h
  · have e := sOf_is hI hh q
    rw [if_pos q, rmR, if_pos (by omega), e]
    simp [u2, updZ]
  · rw [if_neg q, rmR]
    split
    · rename_i z
      have h2 := sOf_lt z
      have hne : ¬ h = sOf R t := fun e => q (by rw [e]; exact h2)
      simp [u2, updZ, hne]
    · rfl
theorem oth_r {R : Nat → Nat → Int} (hI : SI R) (h : Nat) (hh : h < 6) (t : Int) : 0 ≤ oth R h t ∧ oth R h t ≤ 6 := by
  have h1 := hI.hN h hh
  unfold oth
  split
  · rename_i q
    unfold shN at q
    omega
  · omega
theorem rm_hB {R : Nat → Nat → Int} (hI : SI R) (t : Int) : HB (rmR R t) := by
  unfold rmR
  split
  · exact HB_u (HB_u hI.hB (HB_shl (hI.hB 19))) (HB_upd (hI.hB 18) (by have := hI.hN (sOf R t) (by assumption); omega))
  · exact hI.hB
theorem rm_hN {R : Nat → Nat → Int} (hI : SI R) (t : Int) : ∀ h, h < 6 → 0 ≤ rmR R t 18 h ∧ rmR R t 18 h ≤ 6 := fun h hh => by
  rw [rm_18 hI hh]
  exact oth_r hI h hh t

theorem cd_X3_copy : cd yX3_copy 1 := by decide +kernel
theorem in_X3_copy_X3 : ∀ w ∈ wsX30, w ∈ wsX3_copy := by decide +kernel
set_option maxHeartbeats 1000000 in
set_option maxRecDepth 100000 in
theorem c_X3_copy (l : Launch) (g : va_G) (τ : Nat → ClassId) (ad ad2 : Nat → Nat) (R R2 : Nat → Nat → Int)  : Met l yX3_copy wsX3_copy { frames := 1, cells := 0, slots := 0, locals := 20 } (va_Pc [Value.ref (ad 1), Value.ref (ad2 1)] (rwW g τ (rgW ad R τ ++ rgW ad2 R2 τ))) (rwQ g (fun v w => v = none ∧ w = rgW ad R2 τ ++ rgW ad2 R2 τ) (inW (rgW ad R τ ++ rgW ad2 R2 τ))) 0 0 (inW (rgW ad R τ ++ rgW ad2 R2 τ)) := by
  refine rwMet (cc := cX3_copy) (maxL := 2) (ret := none) (lv := [(0, Value.ref (ad 1)), (1, Value.ref (ad2 1))]) (by decide) rfl (Nat.le_of_ble_eq_true rfl) rfl ?_
  intro p e s m below meth c hx hb hr hml hts hown hlocks A H hP hD hS hK ls hl
  refine lv_aload_n hx hb dX3_copy_0 rfl (lv_at hl 0 rfl) ?_
  refine lv_aload_n hx hb dX3_copy_1 rfl (lv_at hl 1 rfl) ?_
  refine va_get (D := g) (ci := 3) (v := Value.int (iI (R2 1 0))) (C := RX3) (T := TX3) (N := 3) hx hb hts in_X3_copy_X3 hown hK.1 hP 3 (rfl) rfl 0 (by decide) (hts _ (List.mem_of_getElem? (i := 1) rfl) : (Cond.fieldLink RX3 18 "CordSeals$Reigns" "count" "I").before _ s = true) (fun _ h9 => h9) rfl dX3_copy_2 ?_
  refine va_put (D := g) (ci := 3) (v := Value.int (iI (R2 1 0))) (ty := .int) (C := RX3) (T := TX3) (N := 3) hx hb hts in_X3_copy_X3 tyX3 tyX3_ok nmX3 hown hK.1 hP hD hS 0 (rfl) rfl 0 (by decide) (hts _ (List.mem_of_getElem? (i := 1) rfl) : (Cond.fieldLink RX3 18 "CordSeals$Reigns" "count" "I").before _ s = true) (fun _ h9 => h9) rfl (by decide +kernel) rfl rfl (Nat.le_of_ble_eq_true rfl) dX3_copy_5 (fun H locs hP hD hS => ?_)
  have hP : va_P g vwCl (rgW ad (u2 R 1 (fun _ => R2 1 0)) τ ++ rgW ad2 R2 τ) H := hP
  have hD : va_D A (rgW ad (u2 R 1 (fun _ => R2 1 0)) τ ++ rgW ad2 R2 τ) := hD
  refine lv_aload_n hx hb dX3_copy_8 rfl (lv_at hl 1 rfl) ?_
  refine va_get (D := g) (ci := 3) (v := Value.ref (ad2 2)) (C := RX3) (T := TX3) (N := 3) hx hb hts in_X3_copy_X3 hown hK.1 hP 3 (rfl) rfl 1 (by decide) (hts _ (List.mem_of_getElem? (i := 2) rfl) : (Cond.fieldLink RX3 9 "CordSeals$Reigns" "begin" "[I").before _ s = true) (fun _ h9 => h9) rfl dX3_copy_9 ?_
  refine lv_iconst (v := iI 0) hx hb dX3_copy_12 (by decide) ?_
  refine lv_aload_n hx hb dX3_copy_13 rfl (lv_at hl 0 rfl) ?_
  refine va_get (D := g) (ci := 3) (v := Value.ref (ad 2)) (C := RX3) (T := TX3) (N := 3) hx hb hts in_X3_copy_X3 hown hK.1 hP 0 (rfl) rfl 1 (by decide) (hts _ (List.mem_of_getElem? (i := 2) rfl) : (Cond.fieldLink RX3 9 "CordSeals$Reigns" "begin" "[I").before _ s = true) (fun _ h9 => h9) rfl dX3_copy_14 ?_
  refine lv_iconst (v := iI 0) hx hb dX3_copy_17 (by decide) ?_
  refine lv_bipush (v := iI 10) hx hb dX3_copy_18 (by decide) ?_
  refine zi_copy hx hb (hml.trans hl.1.symm) hown (hts _ (List.mem_of_getElem? (i := 3) rfl)) (hts _ (List.mem_of_getElem? (i := 4) rfl)) (hts _ (List.mem_of_getElem? (i := 5) rfl)) (hts _ (List.mem_of_getElem? (i := 6) rfl)) hK hP hD hS 4 1 (f := (R2 2)) (f1 := (R 2)) rfl rfl (N := 10) (by decide) (by decide) (Nat.le_of_ble_eq_true rfl) (Nat.le_of_ble_eq_true rfl) dX3_copy_20 (wo := rgW ad (u2 (u2 R 1 (fun _ => R2 1 0)) 2 (R2 2)) τ ++ rgW ad2 R2 τ) rfl (fun H locs hP hD hS => ?_)
  refine lv_aload_n hx hb dX3_copy_23 rfl (lv_at hl 1 rfl) ?_
  refine va_get (D := g) (ci := 3) (v := Value.ref (ad2 3)) (C := RX3) (T := TX3) (N := 3) hx hb hts in_X3_copy_X3 hown hK.1 hP 3 (rfl) rfl 2 (by decide) (hts _ (List.mem_of_getElem? (i := 7) rfl) : (Cond.fieldLink RX3 15 "CordSeals$Reigns" "colours" "[I").before _ s = true) (fun _ h9 => h9) rfl dX3_copy_24 ?_
  refine lv_iconst (v := iI 0) hx hb dX3_copy_27 (by decide) ?_
  refine lv_aload_n hx hb dX3_copy_28 rfl (lv_at hl 0 rfl) ?_
  refine va_get (D := g) (ci := 3) (v := Value.ref (ad 3)) (C := RX3) (T := TX3) (N := 3) hx hb hts in_X3_copy_X3 hown hK.1 hP 0 (rfl) rfl 2 (by decide) (hts _ (List.mem_of_getElem? (i := 7) rfl) : (Cond.fieldLink RX3 15 "CordSeals$Reigns" "colours" "[I").before _ s = true) (fun _ h9 => h9) rfl dX3_copy_29 ?_
  refine lv_iconst (v := iI 0) hx hb dX3_copy_32 (by decide) ?_
  refine lv_bipush (v := iI 10) hx hb dX3_copy_33 (by decide) ?_
  refine zi_copy hx hb (hml.trans hl.1.symm) hown (hts _ (List.mem_of_getElem? (i := 3) rfl)) (hts _ (List.mem_of_getElem? (i := 4) rfl)) (hts _ (List.mem_of_getElem? (i := 5) rfl)) (hts _ (List.mem_of_getElem? (i := 6) rfl)) hK hP hD hS 5 2 (f := (R2 3)) (f1 := (R 3)) rfl rfl (N := 10) (by decide) (by decide) (Nat.le_of_ble_eq_true rfl) (Nat.le_of_ble_eq_true rfl) dX3_copy_35 (wo := rgW ad (u2 (u2 (u2 R 1 (fun _ => R2 1 0)) 2 (R2 2)) 3 (R2 3)) τ ++ rgW ad2 R2 τ) rfl (fun H locs hP hD hS => ?_)
  exact rw_vret hx hb hr hlocks hP hS (⟨rfl, rfl⟩) dX3_copy_38

theorem cd_X0_copy : cd yX0_copy 1 := by decide +kernel
theorem in_X0_copy_X0 : ∀ w ∈ wsX00, w ∈ wsX0_copy := by decide +kernel
set_option maxHeartbeats 1000000 in
set_option maxRecDepth 100000 in
theorem c_X0_copy (l : Launch) (g : va_G) (τ : Nat → ClassId) (ad ad2 : Nat → Nat) (R R2 : Nat → Nat → Int)  : Met l yX0_copy wsX0_copy { frames := 1, cells := 0, slots := 0, locals := 20 } (va_Pc [Value.ref (ad 4), Value.ref (ad2 4)] (rwW g τ (dsW ad R τ ++ dsW ad2 R2 τ))) (rwQ g (fun v w => v = none ∧ w = dsW ad R2 τ ++ dsW ad2 R2 τ) (inW (dsW ad R τ ++ dsW ad2 R2 τ))) 0 0 (inW (dsW ad R τ ++ dsW ad2 R2 τ)) := by
  refine rwMet (cc := cX0_copy) (maxL := 2) (ret := none) (lv := [(0, Value.ref (ad 4)), (1, Value.ref (ad2 4))]) (by decide) rfl (Nat.le_of_ble_eq_true rfl) rfl ?_
  intro p e s m below meth c hx hb hr hml hts hown hlocks A H hP hD hS hK ls hl
  refine lv_aload_n hx hb dX0_copy_0 rfl (lv_at hl 0 rfl) ?_
  refine lv_aload_n hx hb dX0_copy_1 rfl (lv_at hl 1 rfl) ?_
  refine va_get (D := g) (ci := 0) (v := Value.int (iI (R2 4 0))) (C := RX0) (T := TX0) (N := 6) hx hb hts in_X0_copy_X0 hown hK.1 hP 6 (rfl) rfl 0 (by decide) (hts _ (List.mem_of_getElem? (i := 1) rfl) : (Cond.fieldLink RX0 27 "CordSeals$Dies" "count" "I").before _ s = true) (fun _ h9 => h9) rfl dX0_copy_2 ?_
  refine va_put (D := g) (ci := 0) (v := Value.int (iI (R2 4 0))) (ty := .int) (C := RX0) (T := TX0) (N := 6) hx hb hts in_X0_copy_X0 tyX0 tyX0_ok nmX0 hown hK.1 hP hD hS 0 (rfl) rfl 0 (by decide) (hts _ (List.mem_of_getElem? (i := 1) rfl) : (Cond.fieldLink RX0 27 "CordSeals$Dies" "count" "I").before _ s = true) (fun _ h9 => h9) rfl (by decide +kernel) rfl rfl (Nat.le_of_ble_eq_true rfl) dX0_copy_5 (fun H locs hP hD hS => ?_)
  have hP : va_P g vwCl (dsW ad (u2 R 4 (fun _ => R2 4 0)) τ ++ dsW ad2 R2 τ) H := hP
  have hD : va_D A (dsW ad (u2 R 4 (fun _ => R2 4 0)) τ ++ dsW ad2 R2 τ) := hD
  refine lv_aload_n hx hb dX0_copy_8 rfl (lv_at hl 1 rfl) ?_
  refine va_get (D := g) (ci := 0) (v := Value.ref (ad2 5)) (C := RX0) (T := TX0) (N := 6) hx hb hts in_X0_copy_X0 hown hK.1 hP 6 (rfl) rfl 1 (by decide) (hts _ (List.mem_of_getElem? (i := 2) rfl) : (Cond.fieldLink RX0 9 "CordSeals$Dies" "house" "[I").before _ s = true) (fun _ h9 => h9) rfl dX0_copy_9 ?_
  refine lv_iconst (v := iI 0) hx hb dX0_copy_12 (by decide) ?_
  refine lv_aload_n hx hb dX0_copy_13 rfl (lv_at hl 0 rfl) ?_
  refine va_get (D := g) (ci := 0) (v := Value.ref (ad 5)) (C := RX0) (T := TX0) (N := 6) hx hb hts in_X0_copy_X0 hown hK.1 hP 0 (rfl) rfl 1 (by decide) (hts _ (List.mem_of_getElem? (i := 2) rfl) : (Cond.fieldLink RX0 9 "CordSeals$Dies" "house" "[I").before _ s = true) (fun _ h9 => h9) rfl dX0_copy_14 ?_
  refine lv_iconst (v := iI 0) hx hb dX0_copy_17 (by decide) ?_
  refine lv_bipush (v := iI 10) hx hb dX0_copy_18 (by decide) ?_
  refine zi_copy hx hb (hml.trans hl.1.symm) hown (hts _ (List.mem_of_getElem? (i := 3) rfl)) (hts _ (List.mem_of_getElem? (i := 4) rfl)) (hts _ (List.mem_of_getElem? (i := 5) rfl)) (hts _ (List.mem_of_getElem? (i := 6) rfl)) hK hP hD hS 7 1 (f := (R2 5)) (f1 := (R 5)) rfl rfl (N := 10) (by decide) (by decide) (Nat.le_of_ble_eq_true rfl) (Nat.le_of_ble_eq_true rfl) dX0_copy_20 (wo := dsW ad (u2 (u2 R 4 (fun _ => R2 4 0)) 5 (R2 5)) τ ++ dsW ad2 R2 τ) rfl (fun H locs hP hD hS => ?_)
  refine lv_aload_n hx hb dX0_copy_23 rfl (lv_at hl 1 rfl) ?_
  refine va_get (D := g) (ci := 0) (v := Value.ref (ad2 6)) (C := RX0) (T := TX0) (N := 6) hx hb hts in_X0_copy_X0 hown hK.1 hP 6 (rfl) rfl 2 (by decide) (hts _ (List.mem_of_getElem? (i := 7) rfl) : (Cond.fieldLink RX0 15 "CordSeals$Dies" "from" "[I").before _ s = true) (fun _ h9 => h9) rfl dX0_copy_24 ?_
  refine lv_iconst (v := iI 0) hx hb dX0_copy_27 (by decide) ?_
  refine lv_aload_n hx hb dX0_copy_28 rfl (lv_at hl 0 rfl) ?_
  refine va_get (D := g) (ci := 0) (v := Value.ref (ad 6)) (C := RX0) (T := TX0) (N := 6) hx hb hts in_X0_copy_X0 hown hK.1 hP 0 (rfl) rfl 2 (by decide) (hts _ (List.mem_of_getElem? (i := 7) rfl) : (Cond.fieldLink RX0 15 "CordSeals$Dies" "from" "[I").before _ s = true) (fun _ h9 => h9) rfl dX0_copy_29 ?_
  refine lv_iconst (v := iI 0) hx hb dX0_copy_32 (by decide) ?_
  refine lv_bipush (v := iI 10) hx hb dX0_copy_33 (by decide) ?_
  refine zi_copy hx hb (hml.trans hl.1.symm) hown (hts _ (List.mem_of_getElem? (i := 3) rfl)) (hts _ (List.mem_of_getElem? (i := 4) rfl)) (hts _ (List.mem_of_getElem? (i := 5) rfl)) (hts _ (List.mem_of_getElem? (i := 6) rfl)) hK hP hD hS 8 2 (f := (R2 6)) (f1 := (R 6)) rfl rfl (N := 10) (by decide) (by decide) (Nat.le_of_ble_eq_true rfl) (Nat.le_of_ble_eq_true rfl) dX0_copy_35 (wo := dsW ad (u2 (u2 (u2 R 4 (fun _ => R2 4 0)) 5 (R2 5)) 6 (R2 6)) τ ++ dsW ad2 R2 τ) rfl (fun H locs hP hD hS => ?_)
  refine lv_aload_n hx hb dX0_copy_38 rfl (lv_at hl 1 rfl) ?_
  refine va_get (D := g) (ci := 0) (v := Value.ref (ad2 7)) (C := RX0) (T := TX0) (N := 6) hx hb hts in_X0_copy_X0 hown hK.1 hP 6 (rfl) rfl 3 (by decide) (hts _ (List.mem_of_getElem? (i := 8) rfl) : (Cond.fieldLink RX0 18 "CordSeals$Dies" "to" "[I").before _ s = true) (fun _ h9 => h9) rfl dX0_copy_39 ?_
  refine lv_iconst (v := iI 0) hx hb dX0_copy_42 (by decide) ?_
  refine lv_aload_n hx hb dX0_copy_43 rfl (lv_at hl 0 rfl) ?_
  refine va_get (D := g) (ci := 0) (v := Value.ref (ad 7)) (C := RX0) (T := TX0) (N := 6) hx hb hts in_X0_copy_X0 hown hK.1 hP 0 (rfl) rfl 3 (by decide) (hts _ (List.mem_of_getElem? (i := 8) rfl) : (Cond.fieldLink RX0 18 "CordSeals$Dies" "to" "[I").before _ s = true) (fun _ h9 => h9) rfl dX0_copy_44 ?_
  refine lv_iconst (v := iI 0) hx hb dX0_copy_47 (by decide) ?_
  refine lv_bipush (v := iI 10) hx hb dX0_copy_48 (by decide) ?_
  refine zi_copy hx hb (hml.trans hl.1.symm) hown (hts _ (List.mem_of_getElem? (i := 3) rfl)) (hts _ (List.mem_of_getElem? (i := 4) rfl)) (hts _ (List.mem_of_getElem? (i := 5) rfl)) (hts _ (List.mem_of_getElem? (i := 6) rfl)) hK hP hD hS 9 3 (f := (R2 7)) (f1 := (R 7)) rfl rfl (N := 10) (by decide) (by decide) (Nat.le_of_ble_eq_true rfl) (Nat.le_of_ble_eq_true rfl) dX0_copy_50 (wo := dsW ad (u2 (u2 (u2 (u2 R 4 (fun _ => R2 4 0)) 5 (R2 5)) 6 (R2 6)) 7 (R2 7)) τ ++ dsW ad2 R2 τ) rfl (fun H locs hP hD hS => ?_)
  refine lv_aload_n hx hb dX0_copy_53 rfl (lv_at hl 1 rfl) ?_
  refine va_get (D := g) (ci := 0) (v := Value.ref (ad2 8)) (C := RX0) (T := TX0) (N := 6) hx hb hts in_X0_copy_X0 hown hK.1 hP 6 (rfl) rfl 4 (by decide) (hts _ (List.mem_of_getElem? (i := 9) rfl) : (Cond.fieldLink RX0 21 "CordSeals$Dies" "cracks" "[I").before _ s = true) (fun _ h9 => h9) rfl dX0_copy_54 ?_
  refine lv_iconst (v := iI 0) hx hb dX0_copy_57 (by decide) ?_
  refine lv_aload_n hx hb dX0_copy_58 rfl (lv_at hl 0 rfl) ?_
  refine va_get (D := g) (ci := 0) (v := Value.ref (ad 8)) (C := RX0) (T := TX0) (N := 6) hx hb hts in_X0_copy_X0 hown hK.1 hP 0 (rfl) rfl 4 (by decide) (hts _ (List.mem_of_getElem? (i := 9) rfl) : (Cond.fieldLink RX0 21 "CordSeals$Dies" "cracks" "[I").before _ s = true) (fun _ h9 => h9) rfl dX0_copy_59 ?_
  refine lv_iconst (v := iI 0) hx hb dX0_copy_62 (by decide) ?_
  refine lv_bipush (v := iI 10) hx hb dX0_copy_63 (by decide) ?_
  refine zi_copy hx hb (hml.trans hl.1.symm) hown (hts _ (List.mem_of_getElem? (i := 3) rfl)) (hts _ (List.mem_of_getElem? (i := 4) rfl)) (hts _ (List.mem_of_getElem? (i := 5) rfl)) (hts _ (List.mem_of_getElem? (i := 6) rfl)) hK hP hD hS 10 4 (f := (R2 8)) (f1 := (R 8)) rfl rfl (N := 10) (by decide) (by decide) (Nat.le_of_ble_eq_true rfl) (Nat.le_of_ble_eq_true rfl) dX0_copy_65 (wo := dsW ad (u2 (u2 (u2 (u2 (u2 R 4 (fun _ => R2 4 0)) 5 (R2 5)) 6 (R2 6)) 7 (R2 7)) 8 (R2 8)) τ ++ dsW ad2 R2 τ) rfl (fun H locs hP hD hS => ?_)
  refine lv_aload_n hx hb dX0_copy_68 rfl (lv_at hl 1 rfl) ?_
  refine va_get (D := g) (ci := 0) (v := Value.ref (ad2 9)) (C := RX0) (T := TX0) (N := 6) hx hb hts in_X0_copy_X0 hown hK.1 hP 6 (rfl) rfl 5 (by decide) (hts _ (List.mem_of_getElem? (i := 10) rfl) : (Cond.fieldLink RX0 24 "CordSeals$Dies" "crackYears" "[I").before _ s = true) (fun _ h9 => h9) rfl dX0_copy_69 ?_
  refine lv_iconst (v := iI 0) hx hb dX0_copy_72 (by decide) ?_
  refine lv_aload_n hx hb dX0_copy_73 rfl (lv_at hl 0 rfl) ?_
  refine va_get (D := g) (ci := 0) (v := Value.ref (ad 9)) (C := RX0) (T := TX0) (N := 6) hx hb hts in_X0_copy_X0 hown hK.1 hP 0 (rfl) rfl 5 (by decide) (hts _ (List.mem_of_getElem? (i := 10) rfl) : (Cond.fieldLink RX0 24 "CordSeals$Dies" "crackYears" "[I").before _ s = true) (fun _ h9 => h9) rfl dX0_copy_74 ?_
  refine lv_iconst (v := iI 0) hx hb dX0_copy_77 (by decide) ?_
  refine lv_bipush (v := iI 40) hx hb dX0_copy_78 (by decide) ?_
  refine zi_copy hx hb (hml.trans hl.1.symm) hown (hts _ (List.mem_of_getElem? (i := 3) rfl)) (hts _ (List.mem_of_getElem? (i := 4) rfl)) (hts _ (List.mem_of_getElem? (i := 5) rfl)) (hts _ (List.mem_of_getElem? (i := 6) rfl)) hK hP hD hS 11 5 (f := (R2 9)) (f1 := (R 9)) rfl rfl (N := 40) (by decide) (by decide) (Nat.le_of_ble_eq_true rfl) (Nat.le_of_ble_eq_true rfl) dX0_copy_80 (wo := dsW ad (u2 (u2 (u2 (u2 (u2 (u2 R 4 (fun _ => R2 4 0)) 5 (R2 5)) 6 (R2 6)) 7 (R2 7)) 8 (R2 8)) 9 (R2 9)) τ ++ dsW ad2 R2 τ) rfl (fun H locs hP hD hS => ?_)
  exact rw_vret hx hb hr hlocks hP hS (⟨rfl, rfl⟩) dX0_copy_83

theorem cd_X4_copy : cd yX4_copy 1 := by decide +kernel
theorem in_X4_copy_X4 : ∀ w ∈ wsX40, w ∈ wsX4_copy := by decide +kernel
set_option maxHeartbeats 1000000 in
set_option maxRecDepth 100000 in
theorem c_X4_copy (l : Launch) (g : va_G) (τ : Nat → ClassId) (ad ad2 : Nat → Nat) (R R2 : Nat → Nat → Int)  : Met l yX4_copy wsX4_copy { frames := 1, cells := 0, slots := 0, locals := 20 } (va_Pc [Value.ref (ad 10), Value.ref (ad2 10)] (rwW g τ (slW ad R τ ++ slW ad2 R2 τ))) (rwQ g (fun v w => v = none ∧ w = slW ad R2 τ ++ slW ad2 R2 τ) (inW (slW ad R τ ++ slW ad2 R2 τ))) 0 0 (inW (slW ad R τ ++ slW ad2 R2 τ)) := by
  refine rwMet (cc := cX4_copy) (maxL := 2) (ret := none) (lv := [(0, Value.ref (ad 10)), (1, Value.ref (ad2 10))]) (by decide) rfl (Nat.le_of_ble_eq_true rfl) rfl ?_
  intro p e s m below meth c hx hb hr hml hts hown hlocks A H hP hD hS hK ls hl
  refine lv_aload_n hx hb dX4_copy_0 rfl (lv_at hl 0 rfl) ?_
  refine lv_aload_n hx hb dX4_copy_1 rfl (lv_at hl 1 rfl) ?_
  refine va_get (D := g) (ci := 4) (v := Value.int (iI (R2 10 0))) (C := RX4) (T := TX4) (N := 7) hx hb hts in_X4_copy_X4 hown hK.1 hP 7 (rfl) rfl 0 (by decide) (hts _ (List.mem_of_getElem? (i := 1) rfl) : (Cond.fieldLink RX4 30 "CordSeals$Seals" "count" "I").before _ s = true) (fun _ h9 => h9) rfl dX4_copy_2 ?_
  refine va_put (D := g) (ci := 4) (v := Value.int (iI (R2 10 0))) (ty := .int) (C := RX4) (T := TX4) (N := 7) hx hb hts in_X4_copy_X4 tyX4 tyX4_ok nmX4 hown hK.1 hP hD hS 0 (rfl) rfl 0 (by decide) (hts _ (List.mem_of_getElem? (i := 1) rfl) : (Cond.fieldLink RX4 30 "CordSeals$Seals" "count" "I").before _ s = true) (fun _ h9 => h9) rfl (by decide +kernel) rfl rfl (Nat.le_of_ble_eq_true rfl) dX4_copy_5 (fun H locs hP hD hS => ?_)
  have hP : va_P g vwCl (slW ad (u2 R 10 (fun _ => R2 10 0)) τ ++ slW ad2 R2 τ) H := hP
  have hD : va_D A (slW ad (u2 R 10 (fun _ => R2 10 0)) τ ++ slW ad2 R2 τ) := hD
  refine lv_aload_n hx hb dX4_copy_8 rfl (lv_at hl 1 rfl) ?_
  refine va_get (D := g) (ci := 4) (v := Value.ref (ad2 11)) (C := RX4) (T := TX4) (N := 7) hx hb hts in_X4_copy_X4 hown hK.1 hP 7 (rfl) rfl 1 (by decide) (hts _ (List.mem_of_getElem? (i := 2) rfl) : (Cond.fieldLink RX4 9 "CordSeals$Seals" "die" "[I").before _ s = true) (fun _ h9 => h9) rfl dX4_copy_9 ?_
  refine lv_iconst (v := iI 0) hx hb dX4_copy_12 (by decide) ?_
  refine lv_aload_n hx hb dX4_copy_13 rfl (lv_at hl 0 rfl) ?_
  refine va_get (D := g) (ci := 4) (v := Value.ref (ad 11)) (C := RX4) (T := TX4) (N := 7) hx hb hts in_X4_copy_X4 hown hK.1 hP 0 (rfl) rfl 1 (by decide) (hts _ (List.mem_of_getElem? (i := 2) rfl) : (Cond.fieldLink RX4 9 "CordSeals$Seals" "die" "[I").before _ s = true) (fun _ h9 => h9) rfl dX4_copy_14 ?_
  refine lv_iconst (v := iI 0) hx hb dX4_copy_17 (by decide) ?_
  refine lv_bipush (v := iI 24) hx hb dX4_copy_18 (by decide) ?_
  refine zi_copy hx hb (hml.trans hl.1.symm) hown (hts _ (List.mem_of_getElem? (i := 3) rfl)) (hts _ (List.mem_of_getElem? (i := 4) rfl)) (hts _ (List.mem_of_getElem? (i := 5) rfl)) (hts _ (List.mem_of_getElem? (i := 6) rfl)) hK hP hD hS 8 1 (f := (R2 11)) (f1 := (R 11)) rfl rfl (N := 24) (by decide) (by decide) (Nat.le_of_ble_eq_true rfl) (Nat.le_of_ble_eq_true rfl) dX4_copy_20 (wo := slW ad (u2 (u2 R 10 (fun _ => R2 10 0)) 11 (R2 11)) τ ++ slW ad2 R2 τ) rfl (fun H locs hP hD hS => ?_)
  refine lv_aload_n hx hb dX4_copy_23 rfl (lv_at hl 1 rfl) ?_
  refine va_get (D := g) (ci := 4) (v := Value.ref (ad2 12)) (C := RX4) (T := TX4) (N := 7) hx hb hts in_X4_copy_X4 hown hK.1 hP 7 (rfl) rfl 2 (by decide) (hts _ (List.mem_of_getElem? (i := 7) rfl) : (Cond.fieldLink RX4 15 "CordSeals$Seals" "material" "[I").before _ s = true) (fun _ h9 => h9) rfl dX4_copy_24 ?_
  refine lv_iconst (v := iI 0) hx hb dX4_copy_27 (by decide) ?_
  refine lv_aload_n hx hb dX4_copy_28 rfl (lv_at hl 0 rfl) ?_
  refine va_get (D := g) (ci := 4) (v := Value.ref (ad 12)) (C := RX4) (T := TX4) (N := 7) hx hb hts in_X4_copy_X4 hown hK.1 hP 0 (rfl) rfl 2 (by decide) (hts _ (List.mem_of_getElem? (i := 7) rfl) : (Cond.fieldLink RX4 15 "CordSeals$Seals" "material" "[I").before _ s = true) (fun _ h9 => h9) rfl dX4_copy_29 ?_
  refine lv_iconst (v := iI 0) hx hb dX4_copy_32 (by decide) ?_
  refine lv_bipush (v := iI 24) hx hb dX4_copy_33 (by decide) ?_
  refine zi_copy hx hb (hml.trans hl.1.symm) hown (hts _ (List.mem_of_getElem? (i := 3) rfl)) (hts _ (List.mem_of_getElem? (i := 4) rfl)) (hts _ (List.mem_of_getElem? (i := 5) rfl)) (hts _ (List.mem_of_getElem? (i := 6) rfl)) hK hP hD hS 9 2 (f := (R2 12)) (f1 := (R 12)) rfl rfl (N := 24) (by decide) (by decide) (Nat.le_of_ble_eq_true rfl) (Nat.le_of_ble_eq_true rfl) dX4_copy_35 (wo := slW ad (u2 (u2 (u2 R 10 (fun _ => R2 10 0)) 11 (R2 11)) 12 (R2 12)) τ ++ slW ad2 R2 τ) rfl (fun H locs hP hD hS => ?_)
  refine lv_aload_n hx hb dX4_copy_38 rfl (lv_at hl 1 rfl) ?_
  refine va_get (D := g) (ci := 4) (v := Value.ref (ad2 13)) (C := RX4) (T := TX4) (N := 7) hx hb hts in_X4_copy_X4 hown hK.1 hP 7 (rfl) rfl 3 (by decide) (hts _ (List.mem_of_getElem? (i := 8) rfl) : (Cond.fieldLink RX4 18 "CordSeals$Seals" "colour" "[I").before _ s = true) (fun _ h9 => h9) rfl dX4_copy_39 ?_
  refine lv_iconst (v := iI 0) hx hb dX4_copy_42 (by decide) ?_
  refine lv_aload_n hx hb dX4_copy_43 rfl (lv_at hl 0 rfl) ?_
  refine va_get (D := g) (ci := 4) (v := Value.ref (ad 13)) (C := RX4) (T := TX4) (N := 7) hx hb hts in_X4_copy_X4 hown hK.1 hP 0 (rfl) rfl 3 (by decide) (hts _ (List.mem_of_getElem? (i := 8) rfl) : (Cond.fieldLink RX4 18 "CordSeals$Seals" "colour" "[I").before _ s = true) (fun _ h9 => h9) rfl dX4_copy_44 ?_
  refine lv_iconst (v := iI 0) hx hb dX4_copy_47 (by decide) ?_
  refine lv_bipush (v := iI 24) hx hb dX4_copy_48 (by decide) ?_
  refine zi_copy hx hb (hml.trans hl.1.symm) hown (hts _ (List.mem_of_getElem? (i := 3) rfl)) (hts _ (List.mem_of_getElem? (i := 4) rfl)) (hts _ (List.mem_of_getElem? (i := 5) rfl)) (hts _ (List.mem_of_getElem? (i := 6) rfl)) hK hP hD hS 10 3 (f := (R2 13)) (f1 := (R 13)) rfl rfl (N := 24) (by decide) (by decide) (Nat.le_of_ble_eq_true rfl) (Nat.le_of_ble_eq_true rfl) dX4_copy_50 (wo := slW ad (u2 (u2 (u2 (u2 R 10 (fun _ => R2 10 0)) 11 (R2 11)) 12 (R2 12)) 13 (R2 13)) τ ++ slW ad2 R2 τ) rfl (fun H locs hP hD hS => ?_)
  refine lv_aload_n hx hb dX4_copy_53 rfl (lv_at hl 1 rfl) ?_
  refine va_get (D := g) (ci := 4) (v := Value.ref (ad2 14)) (C := RX4) (T := TX4) (N := 7) hx hb hts in_X4_copy_X4 hown hK.1 hP 7 (rfl) rfl 4 (by decide) (hts _ (List.mem_of_getElem? (i := 9) rfl) : (Cond.fieldLink RX4 21 "CordSeals$Seals" "bubbles" "[I").before _ s = true) (fun _ h9 => h9) rfl dX4_copy_54 ?_
  refine lv_iconst (v := iI 0) hx hb dX4_copy_57 (by decide) ?_
  refine lv_aload_n hx hb dX4_copy_58 rfl (lv_at hl 0 rfl) ?_
  refine va_get (D := g) (ci := 4) (v := Value.ref (ad 14)) (C := RX4) (T := TX4) (N := 7) hx hb hts in_X4_copy_X4 hown hK.1 hP 0 (rfl) rfl 4 (by decide) (hts _ (List.mem_of_getElem? (i := 9) rfl) : (Cond.fieldLink RX4 21 "CordSeals$Seals" "bubbles" "[I").before _ s = true) (fun _ h9 => h9) rfl dX4_copy_59 ?_
  refine lv_iconst (v := iI 0) hx hb dX4_copy_62 (by decide) ?_
  refine lv_bipush (v := iI 24) hx hb dX4_copy_63 (by decide) ?_
  refine zi_copy hx hb (hml.trans hl.1.symm) hown (hts _ (List.mem_of_getElem? (i := 3) rfl)) (hts _ (List.mem_of_getElem? (i := 4) rfl)) (hts _ (List.mem_of_getElem? (i := 5) rfl)) (hts _ (List.mem_of_getElem? (i := 6) rfl)) hK hP hD hS 11 4 (f := (R2 14)) (f1 := (R 14)) rfl rfl (N := 24) (by decide) (by decide) (Nat.le_of_ble_eq_true rfl) (Nat.le_of_ble_eq_true rfl) dX4_copy_65 (wo := slW ad (u2 (u2 (u2 (u2 (u2 R 10 (fun _ => R2 10 0)) 11 (R2 11)) 12 (R2 12)) 13 (R2 13)) 14 (R2 14)) τ ++ slW ad2 R2 τ) rfl (fun H locs hP hD hS => ?_)
  refine lv_aload_n hx hb dX4_copy_68 rfl (lv_at hl 1 rfl) ?_
  refine va_get (D := g) (ci := 4) (v := Value.ref (ad2 15)) (C := RX4) (T := TX4) (N := 7) hx hb hts in_X4_copy_X4 hown hK.1 hP 7 (rfl) rfl 5 (by decide) (hts _ (List.mem_of_getElem? (i := 10) rfl) : (Cond.fieldLink RX4 24 "CordSeals$Seals" "shown" "[I").before _ s = true) (fun _ h9 => h9) rfl dX4_copy_69 ?_
  refine lv_iconst (v := iI 0) hx hb dX4_copy_72 (by decide) ?_
  refine lv_aload_n hx hb dX4_copy_73 rfl (lv_at hl 0 rfl) ?_
  refine va_get (D := g) (ci := 4) (v := Value.ref (ad 15)) (C := RX4) (T := TX4) (N := 7) hx hb hts in_X4_copy_X4 hown hK.1 hP 0 (rfl) rfl 5 (by decide) (hts _ (List.mem_of_getElem? (i := 10) rfl) : (Cond.fieldLink RX4 24 "CordSeals$Seals" "shown" "[I").before _ s = true) (fun _ h9 => h9) rfl dX4_copy_74 ?_
  refine lv_iconst (v := iI 0) hx hb dX4_copy_77 (by decide) ?_
  refine lv_bipush (v := iI 24) hx hb dX4_copy_78 (by decide) ?_
  refine zi_copy hx hb (hml.trans hl.1.symm) hown (hts _ (List.mem_of_getElem? (i := 3) rfl)) (hts _ (List.mem_of_getElem? (i := 4) rfl)) (hts _ (List.mem_of_getElem? (i := 5) rfl)) (hts _ (List.mem_of_getElem? (i := 6) rfl)) hK hP hD hS 12 5 (f := (R2 15)) (f1 := (R 15)) rfl rfl (N := 24) (by decide) (by decide) (Nat.le_of_ble_eq_true rfl) (Nat.le_of_ble_eq_true rfl) dX4_copy_80 (wo := slW ad (u2 (u2 (u2 (u2 (u2 (u2 R 10 (fun _ => R2 10 0)) 11 (R2 11)) 12 (R2 12)) 13 (R2 13)) 14 (R2 14)) 15 (R2 15)) τ ++ slW ad2 R2 τ) rfl (fun H locs hP hD hS => ?_)
  refine lv_aload_n hx hb dX4_copy_83 rfl (lv_at hl 1 rfl) ?_
  refine va_get (D := g) (ci := 4) (v := Value.ref (ad2 16)) (C := RX4) (T := TX4) (N := 7) hx hb hts in_X4_copy_X4 hown hK.1 hP 7 (rfl) rfl 6 (by decide) (hts _ (List.mem_of_getElem? (i := 11) rfl) : (Cond.fieldLink RX4 27 "CordSeals$Seals" "hangsOn" "[I").before _ s = true) (fun _ h9 => h9) rfl dX4_copy_84 ?_
  refine lv_iconst (v := iI 0) hx hb dX4_copy_87 (by decide) ?_
  refine lv_aload_n hx hb dX4_copy_88 rfl (lv_at hl 0 rfl) ?_
  refine va_get (D := g) (ci := 4) (v := Value.ref (ad 16)) (C := RX4) (T := TX4) (N := 7) hx hb hts in_X4_copy_X4 hown hK.1 hP 0 (rfl) rfl 6 (by decide) (hts _ (List.mem_of_getElem? (i := 11) rfl) : (Cond.fieldLink RX4 27 "CordSeals$Seals" "hangsOn" "[I").before _ s = true) (fun _ h9 => h9) rfl dX4_copy_89 ?_
  refine lv_iconst (v := iI 0) hx hb dX4_copy_92 (by decide) ?_
  refine lv_bipush (v := iI 24) hx hb dX4_copy_93 (by decide) ?_
  refine zi_copy hx hb (hml.trans hl.1.symm) hown (hts _ (List.mem_of_getElem? (i := 3) rfl)) (hts _ (List.mem_of_getElem? (i := 4) rfl)) (hts _ (List.mem_of_getElem? (i := 5) rfl)) (hts _ (List.mem_of_getElem? (i := 6) rfl)) hK hP hD hS 13 6 (f := (R2 16)) (f1 := (R 16)) rfl rfl (N := 24) (by decide) (by decide) (Nat.le_of_ble_eq_true rfl) (Nat.le_of_ble_eq_true rfl) dX4_copy_95 (wo := slW ad (u2 (u2 (u2 (u2 (u2 (u2 (u2 R 10 (fun _ => R2 10 0)) 11 (R2 11)) 12 (R2 12)) 13 (R2 13)) 14 (R2 14)) 15 (R2 15)) 16 (R2 16)) τ ++ slW ad2 R2 τ) rfl (fun H locs hP hD hS => ?_)
  exact rw_vret hx hb hr hlocks hP hS (⟨rfl, rfl⟩) dX4_copy_98

theorem cd_X5_copy : cd yX5_copy 1 := by decide +kernel
theorem in_X5_copy_X5 : ∀ w ∈ wsX50, w ∈ wsX5_copy := by decide +kernel
set_option maxHeartbeats 1000000 in
set_option maxRecDepth 100000 in
theorem c_X5_copy (l : Launch) (g : va_G) (τ : Nat → ClassId) (ad ad2 : Nat → Nat) (R R2 : Nat → Nat → Int)  : Met l yX5_copy wsX5_copy { frames := 1, cells := 0, slots := 0, locals := 20 } (va_Pc [Value.ref (ad 17), Value.ref (ad2 17)] (rwW g τ (shW ad R τ ++ shW ad2 R2 τ))) (rwQ g (fun v w => v = none ∧ w = shW ad R2 τ ++ shW ad2 R2 τ) (inW (shW ad R τ ++ shW ad2 R2 τ))) 0 0 (inW (shW ad R τ ++ shW ad2 R2 τ)) := by
  refine rwMet (cc := cX5_copy) (maxL := 2) (ret := none) (lv := [(0, Value.ref (ad 17)), (1, Value.ref (ad2 17))]) (by decide) rfl (Nat.le_of_ble_eq_true rfl) rfl ?_
  intro p e s m below meth c hx hb hr hml hts hown hlocks A H hP hD hS hK ls hl
  refine lv_aload_n hx hb dX5_copy_0 rfl (lv_at hl 1 rfl) ?_
  refine va_get (D := g) (ci := 5) (v := Value.ref (ad2 18)) (C := RX5) (T := TX5) (N := 2) hx hb hts in_X5_copy_X5 hown hK.1 hP 3 (rfl) rfl 0 (by decide) (hts _ (List.mem_of_getElem? (i := 1) rfl) : (Cond.fieldLink RX5 9 "CordSeals$Shelves" "count" "[I").before _ s = true) (fun _ h9 => h9) rfl dX5_copy_1 ?_
  refine lv_iconst (v := iI 0) hx hb dX5_copy_4 (by decide) ?_
  refine lv_aload_n hx hb dX5_copy_5 rfl (lv_at hl 0 rfl) ?_
  refine va_get (D := g) (ci := 5) (v := Value.ref (ad 18)) (C := RX5) (T := TX5) (N := 2) hx hb hts in_X5_copy_X5 hown hK.1 hP 0 (rfl) rfl 0 (by decide) (hts _ (List.mem_of_getElem? (i := 1) rfl) : (Cond.fieldLink RX5 9 "CordSeals$Shelves" "count" "[I").before _ s = true) (fun _ h9 => h9) rfl dX5_copy_6 ?_
  refine lv_iconst (v := iI 0) hx hb dX5_copy_9 (by decide) ?_
  refine lv_bipush (v := iI 6) hx hb dX5_copy_10 (by decide) ?_
  refine zi_copy hx hb (hml.trans hl.1.symm) hown (hts _ (List.mem_of_getElem? (i := 2) rfl)) (hts _ (List.mem_of_getElem? (i := 3) rfl)) (hts _ (List.mem_of_getElem? (i := 4) rfl)) (hts _ (List.mem_of_getElem? (i := 5) rfl)) hK hP hD hS 4 1 (f := (R2 18)) (f1 := (R 18)) rfl rfl (N := 6) (by decide) (by decide) (Nat.le_of_ble_eq_true rfl) (Nat.le_of_ble_eq_true rfl) dX5_copy_12 (wo := shW ad (u2 R 18 (R2 18)) τ ++ shW ad2 R2 τ) rfl (fun H locs hP hD hS => ?_)
  refine lv_aload_n hx hb dX5_copy_15 rfl (lv_at hl 1 rfl) ?_
  refine va_get (D := g) (ci := 5) (v := Value.ref (ad2 19)) (C := RX5) (T := TX5) (N := 2) hx hb hts in_X5_copy_X5 hown hK.1 hP 3 (rfl) rfl 1 (by decide) (hts _ (List.mem_of_getElem? (i := 6) rfl) : (Cond.fieldLink RX5 15 "CordSeals$Shelves" "seals" "[I").before _ s = true) (fun _ h9 => h9) rfl dX5_copy_16 ?_
  refine lv_iconst (v := iI 0) hx hb dX5_copy_19 (by decide) ?_
  refine lv_aload_n hx hb dX5_copy_20 rfl (lv_at hl 0 rfl) ?_
  refine va_get (D := g) (ci := 5) (v := Value.ref (ad 19)) (C := RX5) (T := TX5) (N := 2) hx hb hts in_X5_copy_X5 hown hK.1 hP 0 (rfl) rfl 1 (by decide) (hts _ (List.mem_of_getElem? (i := 6) rfl) : (Cond.fieldLink RX5 15 "CordSeals$Shelves" "seals" "[I").before _ s = true) (fun _ h9 => h9) rfl dX5_copy_21 ?_
  refine lv_iconst (v := iI 0) hx hb dX5_copy_24 (by decide) ?_
  refine lv_bipush (v := iI 36) hx hb dX5_copy_25 (by decide) ?_
  refine zi_copy hx hb (hml.trans hl.1.symm) hown (hts _ (List.mem_of_getElem? (i := 2) rfl)) (hts _ (List.mem_of_getElem? (i := 3) rfl)) (hts _ (List.mem_of_getElem? (i := 4) rfl)) (hts _ (List.mem_of_getElem? (i := 5) rfl)) hK hP hD hS 5 2 (f := (R2 19)) (f1 := (R 19)) rfl rfl (N := 36) (by decide) (by decide) (Nat.le_of_ble_eq_true rfl) (Nat.le_of_ble_eq_true rfl) dX5_copy_27 (wo := shW ad (u2 (u2 R 18 (R2 18)) 19 (R2 19)) τ ++ shW ad2 R2 τ) rfl (fun H locs hP hD hS => ?_)
  exact rw_vret hx hb hr hlocks hP hS (⟨rfl, rfl⟩) dX5_copy_30

theorem cd_X6_copy : cd yX6_copy 1 := by decide +kernel
theorem in_X6_copy_X6 : ∀ w ∈ wsX60, w ∈ wsX6_copy := by decide +kernel
set_option maxHeartbeats 4000000 in
set_option maxRecDepth 100000 in
theorem c_X6_copy (l : Launch) (g : va_G) (τ : Nat → ClassId) (ad ad2 : Nat → Nat) (R R2 : Nat → Nat → Int)  : Met l yX6_copy wsX6_copy { frames := 2, cells := 0, slots := 0, locals := 41 } (va_Pc [Value.ref (ad 0), Value.ref (ad2 0)] (rwW g τ (stW ad R τ ++ stW ad2 R2 τ))) (rwQ g (fun v w => v = none ∧ w = stW ad R2 τ ++ stW ad2 R2 τ) (inW (stW ad R τ ++ stW ad2 R2 τ))) 0 0 (inW (stW ad R τ ++ stW ad2 R2 τ)) := by
  refine rwMet (cc := cX6_copy) (maxL := 2) (ret := none) (lv := [(0, Value.ref (ad 0)), (1, Value.ref (ad2 0))]) (by decide) rfl (Nat.le_of_ble_eq_true rfl) rfl ?_
  intro p e s m below meth c hx hb hr hml hts hown hlocks A H hP hD hS hK ls hl
  refine lv_aload_n hx hb dX6_copy_0 rfl (lv_at hl 0 rfl) ?_
  refine va_get (D := g) (ci := 6) (v := Value.ref (ad 1)) (C := RX6) (T := TX6) (N := 5) hx hb hts in_X6_copy_X6 hown hK.1 hP 0 (rfl) rfl 0 (by decide) (hts _ (List.mem_of_getElem? (i := 1) rfl) : (Cond.fieldLink RX6 12 "CordSeals$State" "reigns" "LCordSeals$Reigns;").before _ s = true) (fun _ h9 => h9) rfl dX6_copy_1 ?_
  refine lv_aload_n hx hb dX6_copy_4 rfl (lv_at hl 1 rfl) ?_
  refine va_get (D := g) (ci := 6) (v := Value.ref (ad2 1)) (C := RX6) (T := TX6) (N := 5) hx hb hts in_X6_copy_X6 hown hK.1 hP 21 (rfl) rfl 0 (by decide) (hts _ (List.mem_of_getElem? (i := 1) rfl) : (Cond.fieldLink RX6 12 "CordSeals$State" "reigns" "LCordSeals$Reigns;").before _ s = true) (fun _ h9 => h9) rfl dX6_copy_5 ?_
  refine rw_V (As := [Value.ref (ad2 1)]) (rest := []) ⟨hx, hb, hml, hown, hts⟩ (c_X3_copy l g τ ad ad2 R R2) gX6_copy_X3_copy cd_X3_copy rfl rfl ⟨rfl, rfl⟩ ⟨Nat.le_of_ble_eq_true rfl, Nat.le_of_ble_eq_true rfl⟩ hK hP hD hS [1, 2, 3, 22, 23, 24] rfl (by decide) 0 rfl rfl rfl rfl hl rfl (Nat.le_of_ble_eq_true rfl) dX6_copy_8 ⟨Nat.le_of_ble_eq_true rfl, Nat.le_of_ble_eq_true rfl⟩ (fun v w h => by rw [h.2]; exact f2_X3_copy _ _ _ _ _) (fun v w1 H locs hZ hP hD hS => ?_)
  obtain ⟨rfl, rfl⟩ := hZ
  rw [b2_X3_copy] at hP hD
  refine tl_none ?_
  refine lv_aload_n hx hb dX6_copy_11 rfl (lv_at hl 0 rfl) ?_
  refine va_get (D := g) (ci := 6) (v := Value.ref (ad 4)) (C := RX6) (T := TX6) (N := 5) hx hb hts in_X6_copy_X6 hown hK.1 hP 0 (rfl) rfl 1 (by decide) (hts _ (List.mem_of_getElem? (i := 2) rfl) : (Cond.fieldLink RX6 21 "CordSeals$State" "dies" "LCordSeals$Dies;").before _ s = true) (fun _ h9 => h9) rfl dX6_copy_12 ?_
  refine lv_aload_n hx hb dX6_copy_15 rfl (lv_at hl 1 rfl) ?_
  refine va_get (D := g) (ci := 6) (v := Value.ref (ad2 4)) (C := RX6) (T := TX6) (N := 5) hx hb hts in_X6_copy_X6 hown hK.1 hP 21 (rfl) rfl 1 (by decide) (hts _ (List.mem_of_getElem? (i := 2) rfl) : (Cond.fieldLink RX6 21 "CordSeals$State" "dies" "LCordSeals$Dies;").before _ s = true) (fun _ h9 => h9) rfl dX6_copy_16 ?_
  refine rw_V (As := [Value.ref (ad2 4)]) (rest := []) ⟨hx, hb, hml, hown, hts⟩ (c_X0_copy l g τ ad ad2 (u2 (u2 (u2 R 1 (R2 1)) 2 (R2 2)) 3 (R2 3)) R2) gX6_copy_X0_copy cd_X0_copy rfl rfl ⟨rfl, rfl⟩ ⟨Nat.le_of_ble_eq_true rfl, Nat.le_of_ble_eq_true rfl⟩ hK hP hD hS [4, 5, 6, 7, 8, 9, 25, 26, 27, 28, 29, 30] rfl (by decide) 0 rfl rfl rfl rfl hl rfl (Nat.le_of_ble_eq_true rfl) dX6_copy_19 ⟨Nat.le_of_ble_eq_true rfl, Nat.le_of_ble_eq_true rfl⟩ (fun v w h => by rw [h.2]; exact f2_X0_copy _ _ _ _ _) (fun v w1 H locs hZ hP hD hS => ?_)
  obtain ⟨rfl, rfl⟩ := hZ
  rw [b2_X0_copy] at hP hD
  refine tl_none ?_
  refine lv_aload_n hx hb dX6_copy_22 rfl (lv_at hl 0 rfl) ?_
  refine va_get (D := g) (ci := 6) (v := Value.ref (ad 10)) (C := RX6) (T := TX6) (N := 5) hx hb hts in_X6_copy_X6 hown hK.1 hP 0 (rfl) rfl 2 (by decide) (hts _ (List.mem_of_getElem? (i := 3) rfl) : (Cond.fieldLink RX6 28 "CordSeals$State" "seals" "LCordSeals$Seals;").before _ s = true) (fun _ h9 => h9) rfl dX6_copy_23 ?_
  refine lv_aload_n hx hb dX6_copy_26 rfl (lv_at hl 1 rfl) ?_
  refine va_get (D := g) (ci := 6) (v := Value.ref (ad2 10)) (C := RX6) (T := TX6) (N := 5) hx hb hts in_X6_copy_X6 hown hK.1 hP 21 (rfl) rfl 2 (by decide) (hts _ (List.mem_of_getElem? (i := 3) rfl) : (Cond.fieldLink RX6 28 "CordSeals$State" "seals" "LCordSeals$Seals;").before _ s = true) (fun _ h9 => h9) rfl dX6_copy_27 ?_
  refine rw_V (As := [Value.ref (ad2 10)]) (rest := []) ⟨hx, hb, hml, hown, hts⟩ (c_X4_copy l g τ ad ad2 (u2 (u2 (u2 (u2 (u2 (u2 (u2 (u2 (u2 R 1 (R2 1)) 2 (R2 2)) 3 (R2 3)) 4 (R2 4)) 5 (R2 5)) 6 (R2 6)) 7 (R2 7)) 8 (R2 8)) 9 (R2 9)) R2) gX6_copy_X4_copy cd_X4_copy rfl rfl ⟨rfl, rfl⟩ ⟨Nat.le_of_ble_eq_true rfl, Nat.le_of_ble_eq_true rfl⟩ hK hP hD hS [10, 11, 12, 13, 14, 15, 16, 31, 32, 33, 34, 35, 36, 37] rfl (by decide) 0 rfl rfl rfl rfl hl rfl (Nat.le_of_ble_eq_true rfl) dX6_copy_30 ⟨Nat.le_of_ble_eq_true rfl, Nat.le_of_ble_eq_true rfl⟩ (fun v w h => by rw [h.2]; exact f2_X4_copy _ _ _ _ _) (fun v w1 H locs hZ hP hD hS => ?_)
  obtain ⟨rfl, rfl⟩ := hZ
  rw [b2_X4_copy] at hP hD
  refine tl_none ?_
  refine lv_aload_n hx hb dX6_copy_33 rfl (lv_at hl 0 rfl) ?_
  refine va_get (D := g) (ci := 6) (v := Value.ref (ad 17)) (C := RX6) (T := TX6) (N := 5) hx hb hts in_X6_copy_X6 hown hK.1 hP 0 (rfl) rfl 3 (by decide) (hts _ (List.mem_of_getElem? (i := 4) rfl) : (Cond.fieldLink RX6 35 "CordSeals$State" "shelves" "LCordSeals$Shelves;").before _ s = true) (fun _ h9 => h9) rfl dX6_copy_34 ?_
  refine lv_aload_n hx hb dX6_copy_37 rfl (lv_at hl 1 rfl) ?_
  refine va_get (D := g) (ci := 6) (v := Value.ref (ad2 17)) (C := RX6) (T := TX6) (N := 5) hx hb hts in_X6_copy_X6 hown hK.1 hP 21 (rfl) rfl 3 (by decide) (hts _ (List.mem_of_getElem? (i := 4) rfl) : (Cond.fieldLink RX6 35 "CordSeals$State" "shelves" "LCordSeals$Shelves;").before _ s = true) (fun _ h9 => h9) rfl dX6_copy_38 ?_
  refine rw_V (As := [Value.ref (ad2 17)]) (rest := []) ⟨hx, hb, hml, hown, hts⟩ (c_X5_copy l g τ ad ad2 (u2 (u2 (u2 (u2 (u2 (u2 (u2 (u2 (u2 (u2 (u2 (u2 (u2 (u2 (u2 (u2 R 1 (R2 1)) 2 (R2 2)) 3 (R2 3)) 4 (R2 4)) 5 (R2 5)) 6 (R2 6)) 7 (R2 7)) 8 (R2 8)) 9 (R2 9)) 10 (R2 10)) 11 (R2 11)) 12 (R2 12)) 13 (R2 13)) 14 (R2 14)) 15 (R2 15)) 16 (R2 16)) R2) gX6_copy_X5_copy cd_X5_copy rfl rfl ⟨rfl, rfl⟩ ⟨Nat.le_of_ble_eq_true rfl, Nat.le_of_ble_eq_true rfl⟩ hK hP hD hS [17, 18, 19, 38, 39, 40] rfl (by decide) 0 rfl rfl rfl rfl hl rfl (Nat.le_of_ble_eq_true rfl) dX6_copy_41 ⟨Nat.le_of_ble_eq_true rfl, Nat.le_of_ble_eq_true rfl⟩ (fun v w h => by rw [h.2]; exact f2_X5_copy _ _ _ _ _) (fun v w1 H locs hZ hP hD hS => ?_)
  obtain ⟨rfl, rfl⟩ := hZ
  rw [b2_X5_copy] at hP hD
  refine tl_none ?_
  refine lv_aload_n hx hb dX6_copy_44 rfl (lv_at hl 1 rfl) ?_
  refine va_get (D := g) (ci := 6) (v := Value.ref (ad2 20)) (C := RX6) (T := TX6) (N := 5) hx hb hts in_X6_copy_X6 hown hK.1 hP 21 (rfl) rfl 4 (by decide) (hts _ (List.mem_of_getElem? (i := 5) rfl) : (Cond.fieldLink RX6 39 "CordSeals$State" "settings" "[I").before _ s = true) (fun _ h9 => h9) rfl dX6_copy_45 ?_
  refine lv_iconst (v := iI 0) hx hb dX6_copy_48 (by decide) ?_
  refine lv_aload_n hx hb dX6_copy_49 rfl (lv_at hl 0 rfl) ?_
  refine va_get (D := g) (ci := 6) (v := Value.ref (ad 20)) (C := RX6) (T := TX6) (N := 5) hx hb hts in_X6_copy_X6 hown hK.1 hP 0 (rfl) rfl 4 (by decide) (hts _ (List.mem_of_getElem? (i := 5) rfl) : (Cond.fieldLink RX6 39 "CordSeals$State" "settings" "[I").before _ s = true) (fun _ h9 => h9) rfl dX6_copy_50 ?_
  refine lv_iconst (v := iI 0) hx hb dX6_copy_53 (by decide) ?_
  refine lv_iconst (v := iI 2) hx hb dX6_copy_54 (by decide) ?_
  refine zi_copy hx hb (hml.trans hl.1.symm) hown (hts _ (List.mem_of_getElem? (i := 6) rfl)) (hts _ (List.mem_of_getElem? (i := 7) rfl)) (hts _ (List.mem_of_getElem? (i := 8) rfl)) (hts _ (List.mem_of_getElem? (i := 9) rfl)) hK hP hD hS 41 20 (f := (R2 20)) (f1 := (R 20)) rfl rfl (N := 2) (by decide) (by decide) (Nat.le_of_ble_eq_true rfl) (Nat.le_of_ble_eq_true rfl) dX6_copy_55 (wo := stW ad (u2 (u2 (u2 (u2 (u2 (u2 (u2 (u2 (u2 (u2 (u2 (u2 (u2 (u2 (u2 (u2 (u2 (u2 (u2 R 1 (R2 1)) 2 (R2 2)) 3 (R2 3)) 4 (R2 4)) 5 (R2 5)) 6 (R2 6)) 7 (R2 7)) 8 (R2 8)) 9 (R2 9)) 10 (R2 10)) 11 (R2 11)) 12 (R2 12)) 13 (R2 13)) 14 (R2 14)) 15 (R2 15)) 16 (R2 16)) 18 (R2 18)) 19 (R2 19)) 20 (R2 20)) τ ++ stW ad2 R2 τ) rfl (fun H locs hP hD hS => ?_)
  exact rw_vret hx hb hr hlocks hP hS (⟨rfl, rfl⟩) dX6_copy_58

theorem cd_X6_makeEmpty : cd yX6_makeEmpty 0 := by decide +kernel
theorem in_X6_makeEmpty_X0 : ∀ w ∈ wsX00, w ∈ wsX6_makeEmpty := by decide +kernel
theorem in_X6_makeEmpty_X3 : ∀ w ∈ wsX30, w ∈ wsX6_makeEmpty := by decide +kernel
theorem in_X6_makeEmpty_X4 : ∀ w ∈ wsX40, w ∈ wsX6_makeEmpty := by decide +kernel
theorem in_X6_makeEmpty_X6 : ∀ w ∈ wsX60, w ∈ wsX6_makeEmpty := by decide +kernel
set_option maxHeartbeats 1000000 in
set_option maxRecDepth 100000 in
theorem c_X6_makeEmpty (l : Launch) (g : va_G) (τ : Nat → ClassId) (ad : Nat → Nat) (R : Nat → Nat → Int)  : Met l yX6_makeEmpty wsX6_makeEmpty { frames := 1, cells := 0, slots := 0, locals := 21 } (va_Pc [Value.ref (ad 0)] (rwW g τ (stW ad R τ))) (rwQ g (fun v w => v = none ∧ w = stW ad (R00 R) τ) (inW (stW ad R τ))) 0 0 (inW (stW ad R τ)) := by
  refine rwMet (cc := cX6_makeEmpty) (maxL := 1) (ret := none) (lv := [(0, Value.ref (ad 0))]) (by decide) rfl (Nat.le_of_ble_eq_true rfl) rfl ?_
  intro p e s m below meth c hx hb hr hml hts hown hlocks A H hP hD hS hK ls hl
  refine lv_aload_n hx hb dX6_makeEmpty_0 rfl (lv_at hl 0 rfl) ?_
  refine va_get (D := g) (ci := 6) (v := Value.ref (ad 1)) (C := RX6) (T := TX6) (N := 5) hx hb hts in_X6_makeEmpty_X6 hown hK.1 hP 0 (rfl) rfl 0 (by decide) (hts _ (List.mem_of_getElem? (i := 1) rfl) : (Cond.fieldLink RX6 12 "CordSeals$State" "reigns" "LCordSeals$Reigns;").before _ s = true) (fun _ h9 => h9) rfl dX6_makeEmpty_1 ?_
  refine lv_iconst (v := iI 0) hx hb dX6_makeEmpty_4 (by decide) ?_
  refine va_put (D := g) (ci := 3) (v := Value.int (iI 0)) (ty := .int) (C := RX3) (T := TX3) (N := 3) hx hb hts in_X6_makeEmpty_X3 tyX3 tyX3_ok nmX3 hown hK.1 hP hD hS 1 (rfl) rfl 0 (by decide) (hts _ (List.mem_of_getElem? (i := 2) rfl) : (Cond.fieldLink RX6 46 "CordSeals$Reigns" "count" "I").before _ s = true) (fun _ h9 => h9) rfl (by decide +kernel) rfl rfl (Nat.le_of_ble_eq_true rfl) dX6_makeEmpty_5 (fun H locs hP hD hS => ?_)
  have hP : va_P g vwCl (stW ad (u2 R 1 (fun _ => 0)) τ) H := hP
  have hD : va_D A (stW ad (u2 R 1 (fun _ => 0)) τ) := hD
  refine lv_aload_n hx hb dX6_makeEmpty_8 rfl (lv_at hl 0 rfl) ?_
  refine va_get (D := g) (ci := 6) (v := Value.ref (ad 4)) (C := RX6) (T := TX6) (N := 5) hx hb hts in_X6_makeEmpty_X6 hown hK.1 hP 0 (rfl) rfl 1 (by decide) (hts _ (List.mem_of_getElem? (i := 3) rfl) : (Cond.fieldLink RX6 21 "CordSeals$State" "dies" "LCordSeals$Dies;").before _ s = true) (fun _ h9 => h9) rfl dX6_makeEmpty_9 ?_
  refine lv_iconst (v := iI 0) hx hb dX6_makeEmpty_12 (by decide) ?_
  refine va_put (D := g) (ci := 0) (v := Value.int (iI 0)) (ty := .int) (C := RX0) (T := TX0) (N := 6) hx hb hts in_X6_makeEmpty_X0 tyX0 tyX0_ok nmX0 hown hK.1 hP hD hS 4 (rfl) rfl 0 (by decide) (hts _ (List.mem_of_getElem? (i := 4) rfl) : (Cond.fieldLink RX6 50 "CordSeals$Dies" "count" "I").before _ s = true) (fun _ h9 => h9) rfl (by decide +kernel) rfl rfl (Nat.le_of_ble_eq_true rfl) dX6_makeEmpty_13 (fun H locs hP hD hS => ?_)
  have hP : va_P g vwCl (stW ad (u2 (u2 R 1 (fun _ => 0)) 4 (fun _ => 0)) τ) H := hP
  have hD : va_D A (stW ad (u2 (u2 R 1 (fun _ => 0)) 4 (fun _ => 0)) τ) := hD
  refine lv_aload_n hx hb dX6_makeEmpty_16 rfl (lv_at hl 0 rfl) ?_
  refine va_get (D := g) (ci := 6) (v := Value.ref (ad 10)) (C := RX6) (T := TX6) (N := 5) hx hb hts in_X6_makeEmpty_X6 hown hK.1 hP 0 (rfl) rfl 2 (by decide) (hts _ (List.mem_of_getElem? (i := 5) rfl) : (Cond.fieldLink RX6 28 "CordSeals$State" "seals" "LCordSeals$Seals;").before _ s = true) (fun _ h9 => h9) rfl dX6_makeEmpty_17 ?_
  refine lv_iconst (v := iI 0) hx hb dX6_makeEmpty_20 (by decide) ?_
  refine va_put (D := g) (ci := 4) (v := Value.int (iI 0)) (ty := .int) (C := RX4) (T := TX4) (N := 7) hx hb hts in_X6_makeEmpty_X4 tyX4 tyX4_ok nmX4 hown hK.1 hP hD hS 10 (rfl) rfl 0 (by decide) (hts _ (List.mem_of_getElem? (i := 6) rfl) : (Cond.fieldLink RX6 51 "CordSeals$Seals" "count" "I").before _ s = true) (fun _ h9 => h9) rfl (by decide +kernel) rfl rfl (Nat.le_of_ble_eq_true rfl) dX6_makeEmpty_21 (fun H locs hP hD hS => ?_)
  have hP : va_P g vwCl (stW ad (u2 (u2 (u2 R 1 (fun _ => 0)) 4 (fun _ => 0)) 10 (fun _ => 0)) τ) H := hP
  have hD : va_D A (stW ad (u2 (u2 (u2 R 1 (fun _ => 0)) 4 (fun _ => 0)) 10 (fun _ => 0)) τ) := hD
  refine lv_aload_n hx hb dX6_makeEmpty_24 rfl (lv_at hl 0 rfl) ?_
  refine va_get (D := g) (ci := 6) (v := Value.ref (ad 17)) (C := RX6) (T := TX6) (N := 5) hx hb hts in_X6_makeEmpty_X6 hown hK.1 hP 0 (rfl) rfl 3 (by decide) (hts _ (List.mem_of_getElem? (i := 7) rfl) : (Cond.fieldLink RX6 35 "CordSeals$State" "shelves" "LCordSeals$Shelves;").before _ s = true) (fun _ h9 => h9) rfl dX6_makeEmpty_25 ?_
  refine rw_V (As := []) (rest := []) ⟨hx, hb, hml, hown, hts⟩ (c_X5_makeEmpty l g τ ad (u2 (u2 (u2 R 1 (fun _ => 0)) 4 (fun _ => 0)) 10 (fun _ => 0))) gX6_makeEmpty_X5_makeEmpty cd_X5_makeEmpty rfl rfl ⟨rfl, rfl⟩ ⟨Nat.le_of_ble_eq_true rfl, Nat.le_of_ble_eq_true rfl⟩ hK hP hD hS [17, 18, 19] rfl (by decide) 0 rfl rfl rfl rfl hl rfl (Nat.le_of_ble_eq_true rfl) dX6_makeEmpty_28 ⟨Nat.le_of_ble_eq_true rfl, Nat.le_of_ble_eq_true rfl⟩ (fun v w h => by rw [h.2]; exact f_sh _ _ _ _) (fun v w1 H locs hZ hP hD hS => ?_)
  obtain ⟨rfl, rfl⟩ := hZ
  rw [b_sh, me_eq] at hP hD
  refine tl_none ?_
  refine lv_aload_n hx hb dX6_makeEmpty_31 rfl (lv_at hl 0 rfl) ?_
  refine va_get (D := g) (ci := 6) (v := Value.ref (ad 20)) (C := RX6) (T := TX6) (N := 5) hx hb hts in_X6_makeEmpty_X6 hown hK.1 hP 0 (rfl) rfl 4 (by decide) (hts _ (List.mem_of_getElem? (i := 8) rfl) : (Cond.fieldLink RX6 39 "CordSeals$State" "settings" "[I").before _ s = true) (fun _ h9 => h9) rfl dX6_makeEmpty_32 ?_
  refine lv_iconst (v := iI 0) hx hb dX6_makeEmpty_35 (by decide) ?_
  refine lv_bipush (v := iI 10) hx hb dX6_makeEmpty_36 (by decide) ?_
  refine zi_ast hx hb hK hP hD hS 20 (f := (R 20)) (rfl) (0) (rfl) (by omega) (by decide) dX6_makeEmpty_38 (wo := stW ad (u2 (u2 (u2 (u2 (u2 R 1 (fun _ => 0)) 4 (fun _ => 0)) 10 (fun _ => 0)) 18 (zf (R 18) 6)) 20 (updZ (R 20) 0 10)) τ) rfl (fun H locs hP hD hS => ?_)
  refine lv_aload_n hx hb dX6_makeEmpty_39 rfl (lv_at hl 0 rfl) ?_
  refine va_get (D := g) (ci := 6) (v := Value.ref (ad 20)) (C := RX6) (T := TX6) (N := 5) hx hb hts in_X6_makeEmpty_X6 hown hK.1 hP 0 (rfl) rfl 4 (by decide) (hts _ (List.mem_of_getElem? (i := 8) rfl) : (Cond.fieldLink RX6 39 "CordSeals$State" "settings" "[I").before _ s = true) (fun _ h9 => h9) rfl dX6_makeEmpty_40 ?_
  refine lv_iconst (v := iI 1) hx hb dX6_makeEmpty_43 (by decide) ?_
  refine lv_iconst (v := iI 3) hx hb dX6_makeEmpty_44 (by decide) ?_
  refine zi_ast hx hb hK hP hD hS 20 (f := (updZ (R 20) 0 10)) (rfl) (1) (rfl) (by omega) (by decide) dX6_makeEmpty_45 (wo := stW ad (u2 (u2 (u2 (u2 (u2 (u2 R 1 (fun _ => 0)) 4 (fun _ => 0)) 10 (fun _ => 0)) 18 (zf (R 18) 6)) 20 (updZ (R 20) 0 10)) 20 (updZ (updZ (R 20) 0 10) 1 3)) τ) rfl (fun H locs hP hD hS => ?_)
  exact rw_vret hx hb hr hlocks hP hS (⟨rfl, rfl⟩) dX6_makeEmpty_46

theorem cd_X6_takeOff : cd yX6_takeOff 1 := by decide +kernel
theorem in_X6_takeOff_X6 : ∀ w ∈ wsX60, w ∈ wsX6_takeOff := by decide +kernel
set_option maxHeartbeats 1000000 in
set_option maxRecDepth 100000 in
theorem c_X6_takeOff (l : Launch) (g : va_G) (τ : Nat → ClassId) (ad : Nat → Nat) (R : Nat → Nat → Int) (hI : SI R) (t : Int) (rt : -2147483648 ≤ t ∧ t < 2147483648)  : Met l yX6_takeOff wsX6_takeOff { frames := 4, cells := 0, slots := 0, locals := 90 } (va_Pc [Value.ref (ad 0), Value.int (iI t)] (rwW g τ (stW ad R τ))) (rwQ g (fun v w => v = some (Value.int (iI (aTake R t).1)) ∧ w = stW ad (aTake R t).2 τ) (inW (stW ad R τ))) 0 0 (inW (stW ad R τ)) := by
  have hB := hI.hB
  have hr0 := hI.r
  have hd0 := hI.d
  have hs0 := hI.s
  refine rwMet (cc := cX6_takeOff) (maxL := 3) (ret := (some .int)) (lv := [(0, Value.ref (ad 0)), (1, Value.int (iI t))]) (by decide) rfl (Nat.le_of_ble_eq_true rfl) rfl ?_
  intro p e s m below meth c hx hb hr hml hts hown hlocks A H hP hD hS hK ls hl
  refine lv_aload_n hx hb dX6_takeOff_0 rfl (lv_at hl 0 rfl) ?_
  refine va_get (D := g) (ci := 6) (v := Value.ref (ad 10)) (C := RX6) (T := TX6) (N := 5) hx hb hts in_X6_takeOff_X6 hown hK.1 hP 0 (rfl) rfl 2 (by decide) (hts _ (List.mem_of_getElem? (i := 1) rfl) : (Cond.fieldLink RX6 28 "CordSeals$State" "seals" "LCordSeals$Seals;").before _ s = true) (fun _ h9 => h9) rfl dX6_takeOff_1 ?_
  refine lv_iload_n hx hb dX6_takeOff_4 rfl (lv_at hl 1 rfl) ?_
  refine ro_V (As := [Value.int (iI t)]) (rest := []) (v := some (Value.int (iI (zB (dHas (R 10 0) t))))) ⟨hx, hb, hml, hown, hts⟩ (c_X4_has l g τ ad R hB t ⟨by omega, by omega⟩) gX6_takeOff_X4_has cd_X4_has rfl rfl ⟨rfl, rfl⟩ ⟨Nat.le_of_ble_eq_true rfl, Nat.le_of_ble_eq_true rfl⟩ hK (hP.sub [10, 11, 12, 13, 14, 15, 16] rfl) 0 rfl rfl rfl rfl hl rfl (Nat.le_of_ble_eq_true rfl) dX6_takeOff_5 ⟨Nat.le_of_ble_eq_true rfl, Nat.le_of_ble_eq_true rfl⟩ ?_
  refine tl_some ?_
  refine zb_if_ne (tgt := 14) hx hb dX6_takeOff_8 (by decide) (fun c_1 => ?_) (fun c_1 => ?_)
  · have _ := c_1
    have hh : 0 ≤ t ∧ t < R 10 0 := by simpa [dHas] using c_1
    have hss := hI.sl t.toNat (by omega)
    have hN := hI.hN
    refine lv_aload_n hx hb dX6_takeOff_14 rfl (lv_at hl 0 rfl) ?_
    refine va_get (D := g) (ci := 6) (v := Value.ref (ad 17)) (C := RX6) (T := TX6) (N := 5) hx hb hts in_X6_takeOff_X6 hown hK.1 hP 0 (rfl) rfl 3 (by decide) (hts _ (List.mem_of_getElem? (i := 2) rfl) : (Cond.fieldLink RX6 35 "CordSeals$State" "shelves" "LCordSeals$Shelves;").before _ s = true) (fun _ h9 => h9) rfl dX6_takeOff_15 ?_
    refine lv_iload_n hx hb dX6_takeOff_18 rfl (lv_at hl 1 rfl) ?_
    refine ro_V (As := [Value.int (iI t)]) (rest := []) (v := some (Value.int (iI (plI 6 (sOf R t))))) ⟨hx, hb, hml, hown, hts⟩ (c_X5_shelfOf l g τ ad R hB hN t ⟨by omega, by omega⟩) gX6_takeOff_X5_shelfOf cd_X5_shelfOf rfl rfl ⟨rfl, rfl⟩ ⟨Nat.le_of_ble_eq_true rfl, Nat.le_of_ble_eq_true rfl⟩ hK (hP.sub [17, 18, 19] rfl) 0 rfl rfl rfl rfl hl rfl (Nat.le_of_ble_eq_true rfl) dX6_takeOff_19 ⟨Nat.le_of_ble_eq_true rfl, Nat.le_of_ble_eq_true rfl⟩ ?_
    refine tl_some ?_
    have hsl := plI_r 6 (sOf R t)
    have hsle : sOf R t ≤ 6 := fst_le _ _
    refine lv_istore_n (lv' := [(2, Value.int (iI (plI 6 (sOf R t)))), (0, Value.ref (ad 0)), (1, Value.int (iI t))]) hx hb dX6_takeOff_22 rfl hl (by decide) rfl (fun ls hl => ?_)
    refine lv_iload_n hx hb dX6_takeOff_23 rfl (lv_at hl 0 rfl) ?_
    refine lv_iconst (v := iI (-1)) hx hb dX6_takeOff_24 (by decide) ?_
    refine zi_icmp_ne (tgt := 31) hx hb ⟨by omega, by omega⟩ ⟨by decide, by decide⟩ dX6_takeOff_25 (by decide) (fun c_2 => ?_) (fun c_2 => ?_)
    · have _ := c_2
      have h0 := plI_yes c_2
      rw [plI_lt h0] at hl
      refine lv_aload_n hx hb dX6_takeOff_31 rfl (lv_at hl 1 rfl) ?_
      refine va_get (D := g) (ci := 6) (v := Value.ref (ad 17)) (C := RX6) (T := TX6) (N := 5) hx hb hts in_X6_takeOff_X6 hown hK.1 hP 0 (rfl) rfl 3 (by decide) (hts _ (List.mem_of_getElem? (i := 2) rfl) : (Cond.fieldLink RX6 35 "CordSeals$State" "shelves" "LCordSeals$Shelves;").before _ s = true) (fun _ h9 => h9) rfl dX6_takeOff_32 ?_
      refine lv_iload_n hx hb dX6_takeOff_35 rfl (lv_at hl 2 rfl) ?_
      refine rw_V (As := [Value.int (iI t)]) (rest := []) ⟨hx, hb, hml, hown, hts⟩ (c_X5_remove l g τ ad R hB hN t ⟨by omega, by omega⟩) gX6_takeOff_X5_remove cd_X5_remove rfl rfl ⟨rfl, rfl⟩ ⟨Nat.le_of_ble_eq_true rfl, Nat.le_of_ble_eq_true rfl⟩ hK hP hD hS [17, 18, 19] rfl (by decide) 0 rfl rfl rfl rfl hl rfl (Nat.le_of_ble_eq_true rfl) dX6_takeOff_36 ⟨Nat.le_of_ble_eq_true rfl, Nat.le_of_ble_eq_true rfl⟩ (fun v w h => by rw [h.2]; exact f_sh _ _ _ _) (fun v w1 H locs hZ hP hD hS => ?_)
      obtain ⟨rfl, rfl⟩ := hZ
      rw [b_sh, rmR_eq] at hP hD
      refine tl_none ?_
      refine lv_iload_n hx hb dX6_takeOff_39 rfl (lv_at hl 0 rfl) ?_
      exact rw_iret hx hb hr hlocks hP hS (by rw [aTake]; rw [if_neg (by omega)]; rw [if_neg (by omega)]; exact ⟨rfl, rfl⟩) dX6_takeOff_40
    · have _ := c_2
      have h0 := plI_no c_2
      refine lv_bipush (v := iI (-4)) hx hb dX6_takeOff_28 (by decide) ?_
      exact rw_iret hx hb hr hlocks hP hS (by rw [aTake]; rw [if_neg (by omega)]; rw [if_pos (by omega)]; exact ⟨rfl, rfl⟩) dX6_takeOff_30
  · have _ := c_1
    have hh : t < 0 ∨ R 10 0 ≤ t := by have := c_1; simp [dHas] at this; omega
    refine lv_bipush (v := iI (-2)) hx hb dX6_takeOff_11 (by decide) ?_
    exact rw_iret hx hb hr hlocks hP hS (by rw [aTake]; rw [if_pos (by omega)]; exact ⟨rfl, rfl⟩) dX6_takeOff_13

theorem cd_X6_putOnShelf : cd yX6_putOnShelf 3 := by decide +kernel
theorem in_X6_putOnShelf_X5 : ∀ w ∈ wsX50, w ∈ wsX6_putOnShelf := by decide +kernel
theorem in_X6_putOnShelf_X6 : ∀ w ∈ wsX60, w ∈ wsX6_putOnShelf := by decide +kernel
set_option maxHeartbeats 1000000 in
set_option maxRecDepth 100000 in
theorem c_X6_putOnShelf (l : Launch) (g : va_G) (τ : Nat → ClassId) (ad : Nat → Nat) (R : Nat → Nat → Int) (hI : SI R) (t : Int) (rt : -2147483648 ≤ t ∧ t < 2147483648) (h : Int) (rh : -2147483648 ≤ h ∧ h < 2147483648) (k : Int) (rk : -2147483648 ≤ k ∧ k < 2147483648)  : Met l yX6_putOnShelf wsX6_putOnShelf { frames := 4, cells := 0, slots := 0, locals := 90 } (va_Pc [Value.ref (ad 0), Value.int (iI t), Value.int (iI h), Value.int (iI k)] (rwW g τ (stW ad R τ))) (rwQ g (fun v w => v = some (Value.int (iI (aShelve R t h k).1)) ∧ w = stW ad (aShelve R t h k).2 τ) (inW (stW ad R τ))) 0 0 (inW (stW ad R τ)) := by
  have hB := hI.hB
  have hr0 := hI.r
  have hd0 := hI.d
  have hs0 := hI.s
  refine rwMet (cc := cX6_putOnShelf) (maxL := 5) (ret := (some .int)) (lv := [(0, Value.ref (ad 0)), (1, Value.int (iI t)), (2, Value.int (iI h)), (3, Value.int (iI k))]) (by decide) rfl (Nat.le_of_ble_eq_true rfl) rfl ?_
  intro p e s m below meth c hx hb hr hml hts hown hlocks A H hP hD hS hK ls hl
  refine lv_aload_n hx hb dX6_putOnShelf_0 rfl (lv_at hl 0 rfl) ?_
  refine va_get (D := g) (ci := 6) (v := Value.ref (ad 10)) (C := RX6) (T := TX6) (N := 5) hx hb hts in_X6_putOnShelf_X6 hown hK.1 hP 0 (rfl) rfl 2 (by decide) (hts _ (List.mem_of_getElem? (i := 1) rfl) : (Cond.fieldLink RX6 28 "CordSeals$State" "seals" "LCordSeals$Seals;").before _ s = true) (fun _ h9 => h9) rfl dX6_putOnShelf_1 ?_
  refine lv_iload_n hx hb dX6_putOnShelf_4 rfl (lv_at hl 1 rfl) ?_
  refine ro_V (As := [Value.int (iI t)]) (rest := []) (v := some (Value.int (iI (zB (dHas (R 10 0) t))))) ⟨hx, hb, hml, hown, hts⟩ (c_X4_has l g τ ad R hB t ⟨by omega, by omega⟩) gX6_putOnShelf_X4_has cd_X4_has rfl rfl ⟨rfl, rfl⟩ ⟨Nat.le_of_ble_eq_true rfl, Nat.le_of_ble_eq_true rfl⟩ hK (hP.sub [10, 11, 12, 13, 14, 15, 16] rfl) 0 rfl rfl rfl rfl hl rfl (Nat.le_of_ble_eq_true rfl) dX6_putOnShelf_5 ⟨Nat.le_of_ble_eq_true rfl, Nat.le_of_ble_eq_true rfl⟩ ?_
  refine tl_some ?_
  refine zb_if_eq (tgt := 18) hx hb dX6_putOnShelf_8 (by decide) (fun c_1 => ?_) (fun c_1 => ?_)
  · have _ := c_1
    have hh : t < 0 ∨ R 10 0 ≤ t := by have := c_1; simp [dHas] at this; omega
    refine lv_bipush (v := iI (-2)) hx hb dX6_putOnShelf_18 (by decide) ?_
    exact rw_iret hx hb hr hlocks hP hS (by rw [aShelve]; rw [if_pos (by omega)]; exact ⟨rfl, rfl⟩) dX6_putOnShelf_20
  · have _ := c_1
    have hh : 0 ≤ t ∧ t < R 10 0 := by simpa [dHas] using c_1
    have hss := hI.sl t.toNat (by omega)
    have hN := hI.hN
    refine lv_iload_n hx hb dX6_putOnShelf_11 rfl (lv_at hl 2 rfl) ?_
    refine ro_SN (As := [Value.int (iI h)]) (rest := []) (v := some (Value.int (iI (zB (decide (0 ≤ h ∧ h < 6)))))) ⟨hx, hb, hml, hown, hts⟩ (c_X9_isShelf l g τ h ⟨by omega, by omega⟩) gX6_putOnShelf_X9_isShelf_n183 cd_X9_isShelf rfl ⟨rfl, rfl⟩ ⟨Nat.le_of_ble_eq_true rfl, Nat.le_of_ble_eq_true rfl⟩ hK (by decide +kernel) (List.mem_of_getElem? (i := 11) rfl) (List.mem_of_getElem? (i := 10) rfl) (fun _ _ h => by cases h) rfl hl rfl (Nat.le_of_ble_eq_true rfl) dX6_putOnShelf_12 ⟨Nat.le_of_ble_eq_true rfl, Nat.le_of_ble_eq_true rfl⟩ ?_
    refine tl_some ?_
    refine zb_if_ne (tgt := 21) hx hb dX6_putOnShelf_15 (by decide) (fun c_2 => ?_) (fun c_2 => ?_)
    · have cd_c_2 := of_decide_eq_true c_2
      refine lv_aload_n hx hb dX6_putOnShelf_21 rfl (lv_at hl 0 rfl) ?_
      refine va_get (D := g) (ci := 6) (v := Value.ref (ad 17)) (C := RX6) (T := TX6) (N := 5) hx hb hts in_X6_putOnShelf_X6 hown hK.1 hP 0 (rfl) rfl 3 (by decide) (hts _ (List.mem_of_getElem? (i := 2) rfl) : (Cond.fieldLink RX6 35 "CordSeals$State" "shelves" "LCordSeals$Shelves;").before _ s = true) (fun _ h9 => h9) rfl dX6_putOnShelf_22 ?_
      refine lv_iload_n hx hb dX6_putOnShelf_25 rfl (lv_at hl 2 rfl) ?_
      refine cv_i (y := iI ((h.toNat : Nat) : Int)) (congrArg iI (by omega)) ?_
      refine lv_iload_n hx hb dX6_putOnShelf_26 rfl (lv_at hl 1 rfl) ?_
      refine ro_V (As := [Value.int (iI ((h.toNat : Nat) : Int)), Value.int (iI t)]) (rest := []) (v := some (Value.int (iI (oth R h.toNat t)))) ⟨hx, hb, hml, hown, hts⟩ (c_X5_others l g τ ad R hB hN h.toNat (by omega) t ⟨by omega, by omega⟩) gX6_putOnShelf_X5_others cd_X5_others rfl rfl ⟨rfl, rfl⟩ ⟨Nat.le_of_ble_eq_true rfl, Nat.le_of_ble_eq_true rfl⟩ hK (hP.sub [17, 18, 19] rfl) 0 rfl rfl rfl rfl hl rfl (Nat.le_of_ble_eq_true rfl) dX6_putOnShelf_27 ⟨Nat.le_of_ble_eq_true rfl, Nat.le_of_ble_eq_true rfl⟩ ?_
      refine tl_some ?_
      have hoth := oth_r hI h.toNat (by omega) t
      refine lv_istore (lv' := [(4, Value.int (iI (oth R h.toNat t))), (0, Value.ref (ad 0)), (1, Value.int (iI t)), (2, Value.int (iI h)), (3, Value.int (iI k))]) hx hb dX6_putOnShelf_30 hl (by decide) rfl (fun ls hl => ?_)
      refine lv_iload_n hx hb dX6_putOnShelf_32 rfl (lv_at hl 4 rfl) ?_
      refine zi_if_lt (tgt := 42) hx hb ⟨by omega, by omega⟩ dX6_putOnShelf_33 (by decide) (fun c_3 => ?_) (fun c_3 => ?_)
      · have _ := c_3
        refine lv_bipush (v := iI (-3)) hx hb dX6_putOnShelf_42 (by decide) ?_
        exact rw_iret hx hb hr hlocks hP hS (by rw [aShelve]; rw [if_neg (by omega)]; rw [if_pos (by omega)]; exact ⟨rfl, rfl⟩) dX6_putOnShelf_44
      · have _ := c_3
        refine lv_iload_n hx hb dX6_putOnShelf_36 rfl (lv_at hl 4 rfl) ?_
        refine lv_iload hx hb dX6_putOnShelf_37 (lv_at hl 0 rfl) ?_
        refine zi_icmp_le (tgt := 45) hx hb ⟨by omega, by omega⟩ ⟨by omega, by omega⟩ dX6_putOnShelf_39 (by decide) (fun c_4 => ?_) (fun c_4 => ?_)
        · have _ := c_4
          refine lv_iload hx hb dX6_putOnShelf_45 (lv_at hl 0 rfl) ?_
          refine lv_bipush (v := iI 6) hx hb dX6_putOnShelf_47 (by decide) ?_
          refine zi_icmp_ge (tgt := 61) hx hb ⟨by omega, by omega⟩ ⟨by decide, by decide⟩ dX6_putOnShelf_49 (by decide) (fun c_5 => ?_) (fun c_5 => ?_)
          · have _ := c_5
            refine lv_bipush (v := iI (-4)) hx hb dX6_putOnShelf_61 (by decide) ?_
            exact rw_iret hx hb hr hlocks hP hS (by rw [aShelve]; rw [if_neg (by omega)]; rw [if_neg (by omega)]; rw [if_pos (by first | exact Or.inr (by assumption) | (left; omega))]; exact ⟨rfl, rfl⟩) dX6_putOnShelf_63
          · have _ := c_5
            refine lv_aload_n hx hb dX6_putOnShelf_52 rfl (lv_at hl 1 rfl) ?_
            refine lv_iload_n hx hb dX6_putOnShelf_53 rfl (lv_at hl 3 rfl) ?_
            refine cv_i (y := iI ((h.toNat : Nat) : Int)) (congrArg iI (by omega)) ?_
            refine lv_iload_n hx hb dX6_putOnShelf_54 rfl (lv_at hl 2 rfl) ?_
            refine cv_i (y := iI ((t.toNat : Nat) : Int)) (congrArg iI (by omega)) ?_
            refine ro_V (As := [Value.int (iI ((h.toNat : Nat) : Int)), Value.int (iI ((t.toNat : Nat) : Int))]) (rest := []) (v := some (Value.int (iI (zB (othH R h.toNat t.toNat))))) ⟨hx, hb, hml, hown, hts⟩ (c_X6_hasOtherHouse l g τ ad R hI h.toNat t.toNat (by omega) (by omega)) gX6_putOnShelf_X6_hasOtherHouse cd_X6_hasOtherHouse rfl rfl ⟨rfl, rfl⟩ ⟨Nat.le_of_ble_eq_true rfl, Nat.le_of_ble_eq_true rfl⟩ hK hP 0 rfl rfl rfl rfl hl rfl (Nat.le_of_ble_eq_true rfl) dX6_putOnShelf_55 ⟨Nat.le_of_ble_eq_true rfl, Nat.le_of_ble_eq_true rfl⟩ ?_
            refine tl_some ?_
            refine zb_if_eq (tgt := 64) hx hb dX6_putOnShelf_58 (by decide) (fun c_6 => ?_) (fun c_6 => ?_)
            · have _ := c_6
              have hrm := rm_18 hI (t := t) (h := h.toNat) (by omega)
              have hsd : shN (rmR R t) h.toNat = (rmR R t 18 h.toNat).toNat := rfl
              refine lv_aload_n hx hb dX6_putOnShelf_64 rfl (lv_at hl 1 rfl) ?_
              refine va_get (D := g) (ci := 6) (v := Value.ref (ad 17)) (C := RX6) (T := TX6) (N := 5) hx hb hts in_X6_putOnShelf_X6 hown hK.1 hP 0 (rfl) rfl 3 (by decide) (hts _ (List.mem_of_getElem? (i := 2) rfl) : (Cond.fieldLink RX6 35 "CordSeals$State" "shelves" "LCordSeals$Shelves;").before _ s = true) (fun _ h9 => h9) rfl dX6_putOnShelf_65 ?_
              refine lv_iload_n hx hb dX6_putOnShelf_68 rfl (lv_at hl 2 rfl) ?_
              refine rw_V (As := [Value.int (iI t)]) (rest := []) ⟨hx, hb, hml, hown, hts⟩ (c_X5_remove l g τ ad R hB hN t ⟨by omega, by omega⟩) gX6_putOnShelf_X5_remove cd_X5_remove rfl rfl ⟨rfl, rfl⟩ ⟨Nat.le_of_ble_eq_true rfl, Nat.le_of_ble_eq_true rfl⟩ hK hP hD hS [17, 18, 19] rfl (by decide) 0 rfl rfl rfl rfl hl rfl (Nat.le_of_ble_eq_true rfl) dX6_putOnShelf_69 ⟨Nat.le_of_ble_eq_true rfl, Nat.le_of_ble_eq_true rfl⟩ (fun v w h => by rw [h.2]; exact f_sh _ _ _ _) (fun v w1 H locs hZ hP hD hS => ?_)
              obtain ⟨rfl, rfl⟩ := hZ
              rw [b_sh, rmR_eq] at hP hD
              refine tl_none ?_
              refine lv_aload_n hx hb dX6_putOnShelf_72 rfl (lv_at hl 1 rfl) ?_
              refine va_get (D := g) (ci := 6) (v := Value.ref (ad 17)) (C := RX6) (T := TX6) (N := 5) hx hb hts in_X6_putOnShelf_X6 hown hK.1 hP 0 (rfl) rfl 3 (by decide) (hts _ (List.mem_of_getElem? (i := 2) rfl) : (Cond.fieldLink RX6 35 "CordSeals$State" "shelves" "LCordSeals$Shelves;").before _ s = true) (fun _ h9 => h9) rfl dX6_putOnShelf_73 ?_
              refine lv_iload_n hx hb dX6_putOnShelf_76 rfl (lv_at hl 3 rfl) ?_
              refine cv_i (y := iI ((h.toNat : Nat) : Int)) (congrArg iI (by omega)) ?_
              refine lv_iload_n hx hb dX6_putOnShelf_77 rfl (lv_at hl 4 rfl) ?_
              refine cv_i (y := iI ((k.toNat : Nat) : Int)) (congrArg iI (by omega)) ?_
              refine lv_iload_n hx hb dX6_putOnShelf_78 rfl (lv_at hl 2 rfl) ?_
              refine rw_V (As := [Value.int (iI ((h.toNat : Nat) : Int)), Value.int (iI ((k.toNat : Nat) : Int)), Value.int (iI t)]) (rest := []) ⟨hx, hb, hml, hown, hts⟩ (c_X5_insert l g τ ad (rmR R t) (rm_hB hI t) (rm_hN hI t) h.toNat k.toNat (by omega) (by omega) (by omega) t) gX6_putOnShelf_X5_insert cd_X5_insert rfl rfl ⟨rfl, rfl⟩ ⟨Nat.le_of_ble_eq_true rfl, Nat.le_of_ble_eq_true rfl⟩ hK hP hD hS [17, 18, 19] rfl (by decide) 0 rfl rfl rfl rfl hl rfl (Nat.le_of_ble_eq_true rfl) dX6_putOnShelf_79 ⟨Nat.le_of_ble_eq_true rfl, Nat.le_of_ble_eq_true rfl⟩ (fun v w h => by rw [h.2]; exact f_sh _ _ _ _) (fun v w1 H locs hZ hP hD hS => ?_)
              obtain ⟨rfl, rfl⟩ := hZ
              rw [b_sh, inR_eq] at hP hD
              refine tl_none ?_
              refine lv_aload_n hx hb dX6_putOnShelf_82 rfl (lv_at hl 1 rfl) ?_
              refine va_get (D := g) (ci := 6) (v := Value.ref (ad 17)) (C := RX6) (T := TX6) (N := 5) hx hb hts in_X6_putOnShelf_X6 hown hK.1 hP 0 (rfl) rfl 3 (by decide) (hts _ (List.mem_of_getElem? (i := 2) rfl) : (Cond.fieldLink RX6 35 "CordSeals$State" "shelves" "LCordSeals$Shelves;").before _ s = true) (fun _ h9 => h9) rfl dX6_putOnShelf_83 ?_
              refine va_get (D := g) (ci := 5) (v := Value.ref (ad 18)) (C := RX5) (T := TX5) (N := 2) hx hb hts in_X6_putOnShelf_X5 hown hK.1 hP 17 (rfl) rfl 0 (by decide) (hts _ (List.mem_of_getElem? (i := 3) rfl) : (Cond.fieldLink RX6 200 "CordSeals$Shelves" "count" "[I").before _ s = true) (fun _ h9 => h9) rfl dX6_putOnShelf_86 ?_
              refine lv_iload_n hx hb dX6_putOnShelf_89 rfl (lv_at hl 3 rfl) ?_
              refine zi_ald hx hb hK hP 18 (f := ((inR (rmR R t) h.toNat k.toNat t) 18)) (rfl) ((h).toNat) (by omega) (by omega) (by decide) dX6_putOnShelf_90 ?_
              exact rw_iret hx hb hr hlocks hP hS (by rw [aShelve]; rw [if_neg (by omega)]; rw [if_neg (by omega)]; rw [if_neg (by intro hq; rcases hq with hq | hq; omega; simp_all)]; exact ⟨rfl, rfl⟩) dX6_putOnShelf_91
            · have _ := c_6
              refine lv_bipush (v := iI (-4)) hx hb dX6_putOnShelf_61 (by decide) ?_
              exact rw_iret hx hb hr hlocks hP hS (by rw [aShelve]; rw [if_neg (by omega)]; rw [if_neg (by omega)]; rw [if_pos (by first | exact Or.inr (by assumption) | (left; omega))]; exact ⟨rfl, rfl⟩) dX6_putOnShelf_63
        · have _ := c_4
          refine lv_bipush (v := iI (-3)) hx hb dX6_putOnShelf_42 (by decide) ?_
          exact rw_iret hx hb hr hlocks hP hS (by rw [aShelve]; rw [if_neg (by omega)]; rw [if_pos (by omega)]; exact ⟨rfl, rfl⟩) dX6_putOnShelf_44
    · have cd_c_2 := of_decide_eq_false c_2
      refine lv_bipush (v := iI (-2)) hx hb dX6_putOnShelf_18 (by decide) ?_
      exact rw_iret hx hb hr hlocks hP hS (by rw [aShelve]; rw [if_pos (by omega)]; exact ⟨rfl, rfl⟩) dX6_putOnShelf_20
