def foL (p : Nat → Bool) (f : Nat → Int) : Nat → Int
  | 0 => 1000
  | s + 1 => if p s then (if anyB p s then max (foL p f s) (f s) else f s) else foL p f s
def foH (p : Nat → Bool) (f : Nat → Int) : Nat → Int
  | 0 => 1999
  | s + 1 => if p s then (if anyB p s then min (foH p f s) (f s) else f s) else foH p f s
def foS (p : Nat → Bool) (f : Nat → Int) : Nat → Int
  | 0 => 0
  | s + 1 => if p s then (if anyB p s then zand (foS p f s) (f s) else f s) else foS p f s
def foJ (J : Nat → Nat → Int) (p : Nat → Bool) (i : Nat) : Nat → Nat → Int := yset J 30 (foL p (J 0) i) (foH p (J 1) i) (foS p (J 2) i)
theorem foL_r {p : Nat → Bool} {f : Nat → Int} (h : ∀ j, -1 ≤ f j ∧ f j < 65536) : ∀ n, -1 ≤ foL p f n ∧ foL p f n < 65536
  | 0 => by unfold foL; omega
  | n + 1 => by
    have h1 := foL_r (p := p) h n
    have h2 := h n
    unfold foL
    repeat' split
    all_goals omega
theorem foH_r {p : Nat → Bool} {f : Nat → Int} (h : ∀ j, -1 ≤ f j ∧ f j < 65536) : ∀ n, -1 ≤ foH p f n ∧ foH p f n < 65536
  | 0 => by unfold foH; omega
  | n + 1 => by
    have h1 := foH_r (p := p) h n
    have h2 := h n
    unfold foH
    repeat' split
    all_goals omega
theorem foS_r {p : Nat → Bool} {f : Nat → Int} {m : Nat} (h : ∀ j, j < m → 0 ≤ f j ∧ f j < 65536) : ∀ n, n ≤ m → 0 ≤ foS p f n ∧ foS p f n < 65536
  | 0, _ => by unfold foS; omega
  | n + 1, hm => by
    have h1 := foS_r (p := p) h n (by omega)
    have h2 := h n (by omega)
    unfold foS
    repeat' split
    · unfold zand
      have : (foS p f n).toNat &&& (f n).toNat ≤ (foS p f n).toNat := Nat.and_le_left
      omega
    · exact h2
    · exact h1
theorem foJ_f {J : Nat → Nat → Int} {p : Nat → Bool} {i : Nat} (h : p i = false) : foJ J p i = foJ J p (i + 1) := by
  unfold foJ
  rw [show foL p (J 0) (i + 1) = foL p (J 0) i from by rw [foL]; simp [h], show foH p (J 1) (i + 1) = foH p (J 1) i from by rw [foH]; simp [h], show foS p (J 2) (i + 1) = foS p (J 2) i from by rw [foS]; simp [h]]
theorem yset_o {J : Nat → Nat → Int} {i j k : Nat} {a b c : Int} (h : ¬ j = i) : yset J i a b c k j = J k j := by unfold yset; rw [if_neg h]
theorem yset_3 {J : Nat → Nat → Int} {i : Nat} {a b c : Int} : yset J i a b c 3 = J 3 := by
  funext j
  unfold yset
  split <;> rfl
theorem yset2 (J : Nat → Nat → Int) (i : Nat) (a b c x y z : Int) : yset (yset J i a b c) i x y z = yset J i x y z := by
  funext k j
  unfold yset
  repeat' split
  all_goals first | rfl | contradiction
theorem foJ_1 {J : Nat → Nat → Int} {p : Nat → Bool} {i : Nat} (hi : ¬ i = 30) (h : p i = true) (ha : anyB p i = false) : yset (foJ J p i) 30 (J 0 i) (J 1 i) (J 2 i) = foJ J p (i + 1) := by
  have e : ∀ x y z, yset (foJ J p i) 30 x y z = yset J 30 x y z := fun x y z => yset2 _ _ _ _ _ _ _ _
  rw [e]
  unfold foJ
  rw [show foL p (J 0) (i + 1) = J 0 i from by rw [foL]; simp [h, ha], show foH p (J 1) (i + 1) = J 1 i from by rw [foH]; simp [h, ha], show foS p (J 2) (i + 1) = J 2 i from by rw [foS]; simp [h, ha]]
theorem foJ_2 {J : Nat → Nat → Int} {p : Nat → Bool} {i : Nat} (h : p i = true) (ha : anyB p i = true) : yset (foJ J p i) 30 (max (foL p (J 0) i) (J 0 i)) (min (foH p (J 1) i) (J 1 i)) (zand (foS p (J 2) i) (J 2 i)) = foJ J p (i + 1) := by
  have e : ∀ x y z, yset (foJ J p i) 30 x y z = yset J 30 x y z := fun x y z => yset2 _ _ _ _ _ _ _ _
  rw [e]
  unfold foJ
  rw [show foL p (J 0) (i + 1) = max (foL p (J 0) i) (J 0 i) from by rw [foL]; simp [h, ha], show foH p (J 1) (i + 1) = min (foH p (J 1) i) (J 1 i) from by rw [foH]; simp [h, ha], show foS p (J 2) (i + 1) = zand (foS p (J 2) i) (J 2 i) from by rw [foS]; simp [h, ha]]
def pJ (R J : Nat → Nat → Int) (q u : Int) (s : Nat) : Bool := decide (¬ (s : Int) = u) && jD R J q s
theorem jD_foJ (R J : Nat → Nat → Int) (p : Nat → Bool) (i : Nat) (q : Int) (s : Nat) : jD R (foJ J p i) q s = jD R J q s := by
  unfold jD foJ
  rw [yset_3]
theorem HB_yset {J : Nat → Nat → Int} (h : HB J) {i : Nat} {a b c : Int} (ha : -1 ≤ a ∧ a < 65536) (hb : -1 ≤ b ∧ b < 65536) (hc : -1 ≤ c ∧ c < 65536) : HB (yset J i a b c) := fun k j => by
  unfold yset
  repeat' split
  all_goals first | assumption | exact h k j
theorem HB_foJ {J : Nat → Nat → Int} (h : HB J) {p : Nat → Bool} {i : Nat} (hs : ∀ i, i < 31 → 0 ≤ J 2 i) (hi : i ≤ 31) : HB (foJ J p i) := by
  have h2 := foS_r (p := p) (f := J 2) (m := 31) (fun j hj => ⟨hs j hj, (h 2 j).2⟩) i hi
  exact HB_yset h (foL_r (h 0) i) (foH_r (h 1) i) (by omega)
theorem foJ_s {J : Nat → Nat → Int} (h : HB J) {p : Nat → Bool} {i : Nat} (hs : ∀ i, i < 31 → 0 ≤ J 2 i) (hi : i ≤ 31) : ∀ k, k < 31 → 0 ≤ foJ J p i 2 k := fun k hk => by
  have h2 := foS_r (p := p) (f := J 2) (m := 31) (fun j hj => ⟨hs j hj, (h 2 j).2⟩) i hi
  unfold foJ yset
  split
  · exact h2.1
  · exact hs k hk
theorem foJ_0 (J : Nat → Nat → Int) (p : Nat → Bool) : yset J 30 1000 1999 0 = foJ J p 0 := rfl

theorem cd_X1_findCommon : cd yX1_findCommon 3 := by decide +kernel
theorem in_X1_findCommon_X1 : ∀ w ∈ wsX10, w ∈ wsX1_findCommon := by decide +kernel
theorem in_X1_findCommon_X4 : ∀ w ∈ wsX40, w ∈ wsX1_findCommon := by decide +kernel
theorem in_X1_findCommon_X6 : ∀ w ∈ wsX60, w ∈ wsX1_findCommon := by decide +kernel
set_option maxHeartbeats 1000000 in
set_option maxRecDepth 100000 in
theorem c_X1_findCommon (l : Launch) (g : va_G) (τ : Nat → ClassId) (ad aj : Nat → Nat) (R J : Nat → Nat → Int) (hI : SI R) (hjb : HB J) (hjs : ∀ i, i < 31 → 0 ≤ J 2 i) (q : Int) (rq : -2147483648 ≤ q ∧ q < 2147483648) (u : Int) (ru : -2147483648 ≤ u ∧ u < 2147483648)  : Met l yX1_findCommon wsX1_findCommon { frames := 2, cells := 0, slots := 0, locals := 37 } (va_Pc [Value.ref (aj 0), Value.ref (ad 0), Value.int (iI q), Value.int (iI u)] (rwW g τ (juW aj J τ ++ stW ad R τ))) (rwQ g (fun v w => v = none ∧ w = juW aj (foJ J (pJ R J q u) (R 10 0).toNat) τ ++ stW ad R τ) (inW (juW aj J τ ++ stW ad R τ))) 0 0 (inW (juW aj J τ ++ stW ad R τ)) := by
  have hB := hI.hB
  have hr0 := hI.r
  have hd0 := hI.d
  have hs0 := hI.s
  have hN := hI.hN
  refine rwMet (cc := cX1_findCommon) (maxL := 6) (ret := none) (lv := [(0, Value.ref (aj 0)), (1, Value.ref (ad 0)), (2, Value.int (iI q)), (3, Value.int (iI u))]) (by decide) rfl (Nat.le_of_ble_eq_true rfl) rfl ?_
  intro p e s m below meth c hx hb hr hml hts hown hlocks A H hP hD hS hK ls hl
  have hJ := va_left hP
  have hT := va_right hP
  refine lv_iconst (v := iI 0) hx hb dX1_findCommon_0 (by decide) ?_
  refine lv_istore (lv' := [(4, Value.int (iI 0)), (0, Value.ref (aj 0)), (1, Value.ref (ad 0)), (2, Value.int (iI q)), (3, Value.int (iI u))]) hx hb dX1_findCommon_1 hl (by decide) rfl (fun ls hl => ?_)
  refine lv_aload_n hx hb dX1_findCommon_3 rfl (lv_at hl 1 rfl) ?_
  refine va_get (D := g) (ci := 1) (v := Value.ref (aj (10 + 30))) (C := RX1) (T := TX1) (N := 6) hx hb hts in_X1_findCommon_X1 hown hK.1 hJ 0 (rfl) rfl 5 (by decide) (hts _ (List.mem_of_getElem? (i := 1) rfl) : (Cond.fieldLink RX1 31 "CordSeals$Judge" "common" "LCordSeals$Years;").before _ s = true) (fun _ h9 => h9) rfl dX1_findCommon_4 ?_
  refine lv_sipush (v := iI 1000) hx hb dX1_findCommon_7 (by decide) ?_
  refine lv_sipush (v := iI 1999) hx hb dX1_findCommon_10 (by decide) ?_
  refine lv_iconst (v := iI 0) hx hb dX1_findCommon_13 (by decide) ?_
  refine rw_V (As := [Value.int (iI 1000), Value.int (iI 1999), Value.int (iI 0)]) (rest := []) ⟨hx, hb, hml, hown, hts⟩ (c_X8_start l g τ (aj (10 + 30)) (J 0 30) (J 1 30) (J 2 30) 1000 1999 0) gX1_findCommon_X8_start cd_X8_start rfl rfl ⟨rfl, rfl⟩ ⟨Nat.le_of_ble_eq_true rfl, Nat.le_of_ble_eq_true rfl⟩ hK hP hD hS [6 + 30] (c_y1 (by omega) rfl rfl rfl) (nd1 _) 0 rfl rfl rfl rfl hl rfl (Nat.le_of_ble_eq_true rfl) dX1_findCommon_14 ⟨Nat.le_of_ble_eq_true rfl, Nat.le_of_ble_eq_true rfl⟩ (fun v w h => by rw [h.2]; exact f_y _ _ _ _ _ _ _) (fun v w1 H locs hZ hP hD hS => ?_)
  obtain ⟨rfl, rfl⟩ := hZ
  rw [b_y (by omega)] at hP hD
  have hJ := va_left hP
  have hT := va_right hP
  refine tl_none ?_
  refine lv_iconst (v := iI 0) hx hb dX1_findCommon_17 (by decide) ?_
  refine lv_istore (lv' := [(5, Value.int (iI 0)), (4, Value.int (iI 0)), (0, Value.ref (aj 0)), (1, Value.ref (ad 0)), (2, Value.int (iI q)), (3, Value.int (iI u))]) hx hb dX1_findCommon_18 hl (by decide) rfl (fun ls hl => ?_)
  have h0_1 : zB (anyB (pJ R J q u) 0) = 0 := by first | rfl | omega | (simp []; done)
  have hP : va_P g vwCl (juW aj (foJ J (pJ R J q u) 0) τ ++ stW ad R τ) H := by first | exact hP | (rw [foJ_0 J (pJ R J q u)] at hP; exact hP)
  have hD : va_D A (juW aj (foJ J (pJ R J q u) 0) τ ++ stW ad R τ) := by first | exact hD | (rw [foJ_0 J (pJ R J q u)] at hD; exact hD)
  refine lp_upW (fun i => [(5, Value.int (iI (i : Int))), (4, Value.int (iI (zB (anyB (pJ R J q u) i)))), (0, Value.ref (aj 0)), (1, Value.ref (ad 0)), (2, Value.int (iI q)), (3, Value.int (iI u))]) (fun i => juW aj (foJ J (pJ R J q u) i) τ ++ stW ad R τ) (fun i => True) ((R 10 0).toNat) (0) (by omega) hP hD hS (by first | trivial | (intro j hj; omega)) (lv_eq (lv_sub hl [0, 1, 2, 3, 4, 5] rfl) (by show [(5, Value.int (iI 0)), (4, Value.int (iI (zB (anyB (pJ R J q u) 0)))), (0, Value.ref (aj 0)), (1, Value.ref (ad 0)), (2, Value.int (iI q)), (3, Value.int (iI u))] = [(5, Value.int (iI 0)), (4, Value.int (iI 0)), (0, Value.ref (aj 0)), (1, Value.ref (ad 0)), (2, Value.int (iI q)), (3, Value.int (iI u))]; rw [h0_1])) (fun i h0_i hi_i hI_i ih_20 H locs hP hD hS ls hl => ?_)
  have hJ := va_left hP
  have hT := va_right hP
  have hfL := foL_r (p := pJ R J q u) (hjb 0) i
  have hfH := foH_r (p := pJ R J q u) (hjb 1) i
  have hfS := foS_r (p := pJ R J q u) (f := J 2) (m := 31) (fun j hj => ⟨hjs j hj, (hjb 2 j).2⟩) i (by omega)
  refine lv_iload hx hb dX1_findCommon_20 (lv_at hl 0 rfl) ?_
  refine lv_aload_n hx hb dX1_findCommon_22 rfl (lv_at hl 3 rfl) ?_
  refine va_get (D := g) (ci := 6) (v := Value.ref (ad 10)) (C := RX6) (T := TX6) (N := 5) hx hb hts in_X1_findCommon_X6 hown hK.1 hT 0 (rfl) rfl 2 (by decide) (hts _ (List.mem_of_getElem? (i := 2) rfl) : (Cond.fieldLink RX1 42 "CordSeals$State" "seals" "LCordSeals$Seals;").before _ s = true) (fun _ h9 => h9) rfl dX1_findCommon_23 ?_
  refine va_get (D := g) (ci := 4) (v := Value.int (iI (R 10 0))) (C := RX4) (T := TX4) (N := 7) hx hb hts in_X1_findCommon_X4 hown hK.1 hT 10 (rfl) rfl 0 (by decide) (hts _ (List.mem_of_getElem? (i := 3) rfl) : (Cond.fieldLink RX1 48 "CordSeals$Seals" "count" "I").before _ s = true) (fun _ h9 => h9) rfl dX1_findCommon_26 ?_
  have hb_2 := hB 10 0
  refine zi_icmp_ge (tgt := 94) hx hb ⟨by omega, by omega⟩ ⟨by omega, by omega⟩ dX1_findCommon_29 (by decide) (fun c_3 => ?_) (fun c_3 => ?_)
  · have _ := c_3
    have h0_i : i = (R 10 0).toNat := by omega
    exact rw_vret hx hb hr hlocks hP hS (⟨rfl, by rw [h0_i]⟩) dX1_findCommon_94
  · have _ := c_3
    have hl_i : i < (R 10 0).toNat := by omega
    refine lv_iload hx hb dX1_findCommon_32 (lv_at hl 0 rfl) ?_
    refine lv_iload_n hx hb dX1_findCommon_34 rfl (lv_at hl 5 rfl) ?_
    refine zi_icmp_eq (tgt := 88) hx hb ⟨by omega, by omega⟩ ⟨by omega, by omega⟩ dX1_findCommon_35 (by decide) (fun c_4 => ?_) (fun c_4 => ?_)
    · have _ := c_4
      have hp : pJ R J q u i = false := by unfold pJ; rw [decide_eq_false (by omega)]; rfl
      have hww := foJ_f (J := J) hp
      have hww := congrArg (fun z => juW aj z τ ++ stW ad R τ) hww
      refine zi_inc (v := ((i + 1 : Nat) : Int)) (lv' := [(5, Value.int (iI ((i + 1 : Nat) : Int))), (4, Value.int (iI (zB (anyB (pJ R J q u) i)))), (0, Value.ref (aj 0)), (1, Value.ref (ad 0)), (2, Value.int (iI q)), (3, Value.int (iI u))]) hx hb dX1_findCommon_88 hl (k := 0) rfl (by omega) (by decide) rfl (fun ls hl => ?_)
      refine lv_goto (tgt := 20) hx hb dX1_findCommon_91 (by decide) ?_
      have hb_5 : (((i + 1) : Nat) : Int) = ((i + 1 : Nat) : Int) := by first | rfl | omega | (simp [c_3, c_4]; done)
      have hb_6 : zB (anyB (pJ R J q u) (i + 1)) = zB (anyB (pJ R J q u) i) := by first | (rw [anyB, hp, Bool.or_true]; rfl) | (rw [anyB, hp, Bool.or_false])
      have hw_7 : juW aj (foJ J (pJ R J q u) i) τ ++ stW ad R τ = juW aj (foJ J (pJ R J q u) (i + 1)) τ ++ stW ad R τ := hww
      rw [hw_7] at hP hD
      exact ih_20 hl_i (trivial) _ _ _ hP hD hS (lv_eq (lv_sub hl [0, 1, 2, 3, 4, 5] rfl) (by show [(5, Value.int (iI (((i + 1) : Nat) : Int))), (4, Value.int (iI (zB (anyB (pJ R J q u) (i + 1))))), (0, Value.ref (aj 0)), (1, Value.ref (ad 0)), (2, Value.int (iI q)), (3, Value.int (iI u))] = [(5, Value.int (iI ((i + 1 : Nat) : Int))), (4, Value.int (iI (zB (anyB (pJ R J q u) i)))), (0, Value.ref (aj 0)), (1, Value.ref (ad 0)), (2, Value.int (iI q)), (3, Value.int (iI u))]; rw [hb_5, hb_6]))
    · have _ := c_4
      refine lv_aload_n hx hb dX1_findCommon_38 rfl (lv_at hl 2 rfl) ?_
      refine lv_aload_n hx hb dX1_findCommon_39 rfl (lv_at hl 3 rfl) ?_
      refine lv_iload hx hb dX1_findCommon_40 (lv_at hl 0 rfl) ?_
      refine lv_iload_n hx hb dX1_findCommon_42 rfl (lv_at hl 4 rfl) ?_
      refine ro_V (As := [Value.ref (ad 0), Value.int (iI (i : Int)), Value.int (iI q)]) (rest := []) (v := some (Value.int (iI (zB (jD R (foJ J (pJ R J q u) i) q i))))) ⟨hx, hb, hml, hown, hts⟩ (c_X1_dates l g τ ad aj R (foJ J (pJ R J q u) i) hI (HB_foJ hjb hjs (by omega)) i (by omega) q ⟨by omega, by omega⟩) gX1_findCommon_X1_dates cd_X1_dates rfl rfl ⟨rfl, rfl⟩ ⟨Nat.le_of_ble_eq_true rfl, Nat.le_of_ble_eq_true rfl⟩ hK hP 0 rfl rfl rfl rfl hl rfl (Nat.le_of_ble_eq_true rfl) dX1_findCommon_43 ⟨Nat.le_of_ble_eq_true rfl, Nat.le_of_ble_eq_true rfl⟩ ?_
      refine tl_some ?_
      refine cv_i (y := iI (zB (jD R J q i))) (congrArg iI (by rw [jD_foJ])) ?_
      refine zb_if_eq (tgt := 88) hx hb dX1_findCommon_46 (by decide) (fun c_8 => ?_) (fun c_8 => ?_)
      · have _ := c_8
        have hp : pJ R J q u i = false := by unfold pJ; rw [show jD R J q i = false from c_8, Bool.and_false]
        have hww := congrArg (fun z => juW aj z τ ++ stW ad R τ) (foJ_f (J := J) hp)
        refine zi_inc (v := ((i + 1 : Nat) : Int)) (lv' := [(5, Value.int (iI ((i + 1 : Nat) : Int))), (4, Value.int (iI (zB (anyB (pJ R J q u) i)))), (0, Value.ref (aj 0)), (1, Value.ref (ad 0)), (2, Value.int (iI q)), (3, Value.int (iI u))]) hx hb dX1_findCommon_88 hl (k := 0) rfl (by omega) (by decide) rfl (fun ls hl => ?_)
        refine lv_goto (tgt := 20) hx hb dX1_findCommon_91 (by decide) ?_
        have hb_9 : (((i + 1) : Nat) : Int) = ((i + 1 : Nat) : Int) := by first | rfl | omega | (simp [c_3, c_4, c_8]; done)
        have hb_10 : zB (anyB (pJ R J q u) (i + 1)) = zB (anyB (pJ R J q u) i) := by first | (rw [anyB, hp, Bool.or_true]; rfl) | (rw [anyB, hp, Bool.or_false])
        have hw_11 : juW aj (foJ J (pJ R J q u) i) τ ++ stW ad R τ = juW aj (foJ J (pJ R J q u) (i + 1)) τ ++ stW ad R τ := hww
        rw [hw_11] at hP hD
        exact ih_20 hl_i (trivial) _ _ _ hP hD hS (lv_eq (lv_sub hl [0, 1, 2, 3, 4, 5] rfl) (by show [(5, Value.int (iI (((i + 1) : Nat) : Int))), (4, Value.int (iI (zB (anyB (pJ R J q u) (i + 1))))), (0, Value.ref (aj 0)), (1, Value.ref (ad 0)), (2, Value.int (iI q)), (3, Value.int (iI u))] = [(5, Value.int (iI ((i + 1 : Nat) : Int))), (4, Value.int (iI (zB (anyB (pJ R J q u) i)))), (0, Value.ref (aj 0)), (1, Value.ref (ad 0)), (2, Value.int (iI q)), (3, Value.int (iI u))]; rw [hb_9, hb_10]))
      · have _ := c_8
        have hp : pJ R J q u i = true := by unfold pJ; rw [show jD R J q i = true from c_8, Bool.and_true]; exact decide_eq_true (by omega)
        have hj0 := hjb 0 i
        have hj1 := hjb 1 i
        have hj2 := hjb 2 i
        have hj3 := hjs i (by omega)
        refine lv_iload hx hb dX1_findCommon_49 (lv_at hl 1 rfl) ?_
        refine zb_if_eq (tgt := 71) hx hb dX1_findCommon_51 (by decide) (fun c_12 => ?_) (fun c_12 => ?_)
        · have _ := c_12
          have hww := congrArg (fun z => juW aj z τ ++ stW ad R τ) (foJ_1 (J := J) (by omega) hp c_12)
          refine lv_aload_n hx hb dX1_findCommon_71 rfl (lv_at hl 2 rfl) ?_
          refine va_get (D := g) (ci := 1) (v := Value.ref (aj (10 + 30))) (C := RX1) (T := TX1) (N := 6) hx hb hts in_X1_findCommon_X1 hown hK.1 hJ 0 (rfl) rfl 5 (by decide) (hts _ (List.mem_of_getElem? (i := 1) rfl) : (Cond.fieldLink RX1 31 "CordSeals$Judge" "common" "LCordSeals$Years;").before _ s = true) (fun _ h9 => h9) rfl dX1_findCommon_72 ?_
          refine lv_aload_n hx hb dX1_findCommon_75 rfl (lv_at hl 2 rfl) ?_
          refine va_get (D := g) (ci := 1) (v := Value.ref (aj 1)) (C := RX1) (T := TX1) (N := 6) hx hb hts in_X1_findCommon_X1 hown hK.1 hJ 0 (rfl) rfl 0 (by decide) (hts _ (List.mem_of_getElem? (i := 4) rfl) : (Cond.fieldLink RX1 11 "CordSeals$Judge" "ofSeals" "[LCordSeals$Years;").before _ s = true) (fun _ h9 => h9) rfl dX1_findCommon_76 ?_
          refine lv_iload hx hb dX1_findCommon_79 (lv_at hl 0 rfl) ?_
          refine zq_ald hx hb hK hJ 1 3 (C := RX8) (f := (fun i => some (aj (10 + i)))) (rfl) rfl (i) (rfl) (by omega) (by decide) (rfl) dX1_findCommon_81 ?_
          refine rw_V (As := [Value.ref (aj (10 + i))]) (rest := []) ⟨hx, hb, hml, hown, hts⟩ (c_X8_copy l g τ (aj (10 + 30)) (aj (10 + i)) (foL (pJ R J q u) (J 0) i) (foH (pJ R J q u) (J 1) i) (foS (pJ R J q u) (J 2) i) (J 0 i) (J 1 i) (J 2 i)) gX1_findCommon_X8_copy cd_X8_copy rfl rfl ⟨rfl, rfl⟩ ⟨Nat.le_of_ble_eq_true rfl, Nat.le_of_ble_eq_true rfl⟩ hK hP hD hS [6 + 30, 6 + i] (c_y2 (by omega) rfl rfl rfl (by omega) (show foJ J (pJ R J q u) i 0 i = J 0 i from yset_o (by omega)) (show foJ J (pJ R J q u) i 1 i = J 1 i from yset_o (by omega)) (show foJ J (pJ R J q u) i 2 i = J 2 i from yset_o (by omega))) (nd2 (by omega)) 0 rfl rfl rfl rfl hl rfl (Nat.le_of_ble_eq_true rfl) dX1_findCommon_82 ⟨Nat.le_of_ble_eq_true rfl, Nat.le_of_ble_eq_true rfl⟩ (fun v w h => by rw [h.2]; exact f_y2 _ _ _ _ _ _ _ _ _ _ _) (fun v w1 H locs hZ hP hD hS => ?_)
          obtain ⟨rfl, rfl⟩ := hZ
          rw [b_y2 (J := foJ J (pJ R J q u) i) (i := 30) (j := i) (by omega) (by omega) (by omega) _ _ _ (show foJ J (pJ R J q u) i 0 i = J 0 i from yset_o (by omega)) (show foJ J (pJ R J q u) i 1 i = J 1 i from yset_o (by omega)) (show foJ J (pJ R J q u) i 2 i = J 2 i from yset_o (by omega))] at hP hD
          have hJ := va_left hP
          have hT := va_right hP
          refine tl_none ?_
          refine lv_iconst (v := iI 1) hx hb dX1_findCommon_85 (by decide) ?_
          refine lv_istore (lv' := [(4, Value.int (iI 1)), (5, Value.int (iI (i : Int))), (0, Value.ref (aj 0)), (1, Value.ref (ad 0)), (2, Value.int (iI q)), (3, Value.int (iI u))]) hx hb dX1_findCommon_86 hl (by decide) rfl (fun ls hl => ?_)
          refine zi_inc (v := ((i + 1 : Nat) : Int)) (lv' := [(5, Value.int (iI ((i + 1 : Nat) : Int))), (4, Value.int (iI 1)), (0, Value.ref (aj 0)), (1, Value.ref (ad 0)), (2, Value.int (iI q)), (3, Value.int (iI u))]) hx hb dX1_findCommon_88 hl (k := 1) rfl (by omega) (by decide) rfl (fun ls hl => ?_)
          refine lv_goto (tgt := 20) hx hb dX1_findCommon_91 (by decide) ?_
          have hb_13 : (((i + 1) : Nat) : Int) = ((i + 1 : Nat) : Int) := by first | rfl | omega | (simp [c_3, c_4, c_8, c_12]; done)
          have hb_14 : zB (anyB (pJ R J q u) (i + 1)) = 1 := by first | (rw [anyB, hp, Bool.or_true]; rfl) | (rw [anyB, hp, Bool.or_false])
          have hw_15 : juW aj (yset (foJ J (pJ R J q u) i) 30 (J 0 i) (J 1 i) (J 2 i)) τ ++ stW ad R τ = juW aj (foJ J (pJ R J q u) (i + 1)) τ ++ stW ad R τ := hww
          rw [hw_15] at hP hD
          exact ih_20 hl_i (trivial) _ _ _ hP hD hS (lv_eq (lv_sub hl [0, 1, 2, 3, 4, 5] rfl) (by show [(5, Value.int (iI (((i + 1) : Nat) : Int))), (4, Value.int (iI (zB (anyB (pJ R J q u) (i + 1))))), (0, Value.ref (aj 0)), (1, Value.ref (ad 0)), (2, Value.int (iI q)), (3, Value.int (iI u))] = [(5, Value.int (iI ((i + 1 : Nat) : Int))), (4, Value.int (iI 1)), (0, Value.ref (aj 0)), (1, Value.ref (ad 0)), (2, Value.int (iI q)), (3, Value.int (iI u))]; rw [hb_13, hb_14]))
        · have _ := c_12
          have hww := congrArg (fun z => juW aj z τ ++ stW ad R τ) (foJ_2 (J := J) hp c_12)
          refine lv_aload_n hx hb dX1_findCommon_54 rfl (lv_at hl 2 rfl) ?_
          refine va_get (D := g) (ci := 1) (v := Value.ref (aj (10 + 30))) (C := RX1) (T := TX1) (N := 6) hx hb hts in_X1_findCommon_X1 hown hK.1 hJ 0 (rfl) rfl 5 (by decide) (hts _ (List.mem_of_getElem? (i := 1) rfl) : (Cond.fieldLink RX1 31 "CordSeals$Judge" "common" "LCordSeals$Years;").before _ s = true) (fun _ h9 => h9) rfl dX1_findCommon_55 ?_
          refine lv_aload_n hx hb dX1_findCommon_58 rfl (lv_at hl 2 rfl) ?_
          refine va_get (D := g) (ci := 1) (v := Value.ref (aj 1)) (C := RX1) (T := TX1) (N := 6) hx hb hts in_X1_findCommon_X1 hown hK.1 hJ 0 (rfl) rfl 0 (by decide) (hts _ (List.mem_of_getElem? (i := 4) rfl) : (Cond.fieldLink RX1 11 "CordSeals$Judge" "ofSeals" "[LCordSeals$Years;").before _ s = true) (fun _ h9 => h9) rfl dX1_findCommon_59 ?_
          refine lv_iload hx hb dX1_findCommon_62 (lv_at hl 0 rfl) ?_
          refine zq_ald hx hb hK hJ 1 3 (C := RX8) (f := (fun i => some (aj (10 + i)))) (rfl) rfl (i) (rfl) (by omega) (by decide) (rfl) dX1_findCommon_64 ?_
          refine rw_V (As := [Value.ref (aj (10 + i))]) (rest := []) ⟨hx, hb, hml, hown, hts⟩ (c_X8_narrow l g τ (aj (10 + 30)) (aj (10 + i)) (foL (pJ R J q u) (J 0) i) (foH (pJ R J q u) (J 1) i) (foS (pJ R J q u) (J 2) i) (J 0 i) (J 1 i) (J 2 i) ⟨by omega, by omega⟩ ⟨by omega, by omega⟩ ⟨by omega, by omega⟩ ⟨by omega, by omega⟩ ⟨by omega, by omega⟩ ⟨by omega, by omega⟩) gX1_findCommon_X8_narrow cd_X8_narrow rfl rfl ⟨rfl, rfl⟩ ⟨Nat.le_of_ble_eq_true rfl, Nat.le_of_ble_eq_true rfl⟩ hK hP hD hS [6 + 30, 6 + i] (c_y2 (by omega) rfl rfl rfl (by omega) (show foJ J (pJ R J q u) i 0 i = J 0 i from yset_o (by omega)) (show foJ J (pJ R J q u) i 1 i = J 1 i from yset_o (by omega)) (show foJ J (pJ R J q u) i 2 i = J 2 i from yset_o (by omega))) (nd2 (by omega)) 0 rfl rfl rfl rfl hl rfl (Nat.le_of_ble_eq_true rfl) dX1_findCommon_65 ⟨Nat.le_of_ble_eq_true rfl, Nat.le_of_ble_eq_true rfl⟩ (fun v w h => by rw [h.2]; exact f_y2 _ _ _ _ _ _ _ _ _ _ _) (fun v w1 H locs hZ hP hD hS => ?_)
          obtain ⟨rfl, rfl⟩ := hZ
          rw [b_y2 (J := foJ J (pJ R J q u) i) (i := 30) (j := i) (by omega) (by omega) (by omega) _ _ _ (show foJ J (pJ R J q u) i 0 i = J 0 i from yset_o (by omega)) (show foJ J (pJ R J q u) i 1 i = J 1 i from yset_o (by omega)) (show foJ J (pJ R J q u) i 2 i = J 2 i from yset_o (by omega))] at hP hD
          have hJ := va_left hP
          have hT := va_right hP
          refine tl_none ?_
          refine lv_goto (tgt := 85) hx hb dX1_findCommon_68 (by decide) ?_
          refine lv_iconst (v := iI 1) hx hb dX1_findCommon_85 (by decide) ?_
          refine lv_istore (lv' := [(4, Value.int (iI 1)), (5, Value.int (iI (i : Int))), (0, Value.ref (aj 0)), (1, Value.ref (ad 0)), (2, Value.int (iI q)), (3, Value.int (iI u))]) hx hb dX1_findCommon_86 hl (by decide) rfl (fun ls hl => ?_)
          refine zi_inc (v := ((i + 1 : Nat) : Int)) (lv' := [(5, Value.int (iI ((i + 1 : Nat) : Int))), (4, Value.int (iI 1)), (0, Value.ref (aj 0)), (1, Value.ref (ad 0)), (2, Value.int (iI q)), (3, Value.int (iI u))]) hx hb dX1_findCommon_88 hl (k := 1) rfl (by omega) (by decide) rfl (fun ls hl => ?_)
          refine lv_goto (tgt := 20) hx hb dX1_findCommon_91 (by decide) ?_
          have hb_16 : (((i + 1) : Nat) : Int) = ((i + 1 : Nat) : Int) := by first | rfl | omega | (simp [c_3, c_4, c_8, c_12]; done)
          have hb_17 : zB (anyB (pJ R J q u) (i + 1)) = 1 := by first | (rw [anyB, hp, Bool.or_true]; rfl) | (rw [anyB, hp, Bool.or_false])
          have hw_18 : juW aj (yset (foJ J (pJ R J q u) i) 30 (max (foL (pJ R J q u) (J 0) i) (J 0 i)) (min (foH (pJ R J q u) (J 1) i) (J 1 i)) (zand (foS (pJ R J q u) (J 2) i) (J 2 i))) τ ++ stW ad R τ = juW aj (foJ J (pJ R J q u) (i + 1)) τ ++ stW ad R τ := hww
          rw [hw_18] at hP hD
          exact ih_20 hl_i (trivial) _ _ _ hP hD hS (lv_eq (lv_sub hl [0, 1, 2, 3, 4, 5] rfl) (by show [(5, Value.int (iI (((i + 1) : Nat) : Int))), (4, Value.int (iI (zB (anyB (pJ R J q u) (i + 1))))), (0, Value.ref (aj 0)), (1, Value.ref (ad 0)), (2, Value.int (iI q)), (3, Value.int (iI u))] = [(5, Value.int (iI ((i + 1 : Nat) : Int))), (4, Value.int (iI 1)), (0, Value.ref (aj 0)), (1, Value.ref (ad 0)), (2, Value.int (iI q)), (3, Value.int (iI u))]; rw [hb_16, hb_17]))
