def tA (X : Nat → Int) : Nat → Int := updZ X 2 (X 2 + 1)
def tDieN (X S : Nat → Int) : Nat → Int := updZ (tDig (tA X) S 0 5).2 5 (tDig (tA X) S 0 5).1
def tDieA (X S : Nat → Int) : Nat → Int := updZ (tYr (tDieN X S) S 3).2 6 (tYr (tDieN X S) S 3).1
def tDieS (X S : Nat → Int) : Nat → Int := tSgn (tDieA X S) S 45
def tDie (X S : Nat → Int) : Nat → Int := updZ (tYr (tDieS X S) S 3).2 7 (tYr (tDieS X S) S 3).1
def tCrN (X S : Nat → Int) : Nat → Int := updZ (tDig (tA X) S 0 9).2 5 (tDig (tA X) S 0 9).1
def tCrack (X S : Nat → Int) : Nat → Int := updZ (tYr (tCrN X S) S 3).2 6 (tYr (tCrN X S) S 3).1
def tSeC (X S : Nat → Int) : Nat → Int := updZ (tCol (tCrN X S) S).2 8 (tCol (tCrN X S) S).1
def tSeB (X S : Nat → Int) : Nat → Int := updZ (tDig (tSeC X S) S 0 9).2 9 (10 * (tDig (tSeC X S) S 0 9).1)
def tSeD (X S : Nat → Int) : Nat → Int := updZ (tDig (tSeB X S) S 0 9).2 9 (10 * (tDig (tSeC X S) S 0 9).1 + (tDig (tSeB X S) S 0 9).1)
def tSeal (X S : Nat → Int) : Nat → Int := updZ (tRis (tSeD X S) S 4).2 10 (tRis (tSeD X S) S 4).1
def tHaM (X S : Nat → Int) : Int := if (tDig (tA X) S 0 2).1 = 2 then 3 else 9
def tHaN (X S : Nat → Int) : Nat → Int := updZ (tDig (tDig (tA X) S 0 2).2 S 0 (tHaM X S)).2 5 (10 * (tDig (tA X) S 0 2).1 + (tDig (tDig (tA X) S 0 2).2 S 0 (tHaM X S)).1)
def tHang (X S : Nat → Int) : Nat → Int := updZ (tDig (tHaN X S) S 0 5).2 11 (tDig (tHaN X S) S 0 5).1
theorem TI_tA {X : Nat → Int} (h : TI X) (hl : X 2 < X 0) : TI (tA X) := TI_a h hl
theorem tReign_ok {X S : Nat → Int} (h : TI X) (hl : X 2 < X 0) : TI (tReign X S) := by
  have h3 := (tRis_ok (S := S) (TI_u (tYr_ok (S := S) (TI_tA h hl) 3) (k := 6) (by omega) (z := (tYr (tA X) S 3).1)) 8).1
  unfold tReign
  split
  · exact TI_f (TI_u h3 (by omega)) (by omega)
  · exact TI_u h3 (by omega)
theorem tDie_ok {X S : Nat → Int} (h : TI X) (hl : X 2 < X 0) : TI (tDie X S) := TI_u (tYr_ok (tSgn_ok (TI_u (tYr_ok (TI_u (tDig_ok (TI_tA h hl) 0 5) (by omega)) 3) (by omega)) 45) 3) (by omega)
theorem tCrN_ok {X S : Nat → Int} (h : TI X) (hl : X 2 < X 0) : TI (tCrN X S) := TI_u (tDig_ok (TI_tA h hl) 0 9) (by omega)
theorem tCrack_ok {X S : Nat → Int} (h : TI X) (hl : X 2 < X 0) : TI (tCrack X S) := TI_u (tYr_ok (tCrN_ok h hl) 3) (by omega)
theorem tSeal_ok {X S : Nat → Int} (h : TI X) (hl : X 2 < X 0) : TI (tSeal X S) := TI_u (tRis_ok (TI_u (tDig_ok (TI_u (tDig_ok (TI_u (tCol_ok (tCrN_ok h hl)) (by omega)) 0 9) (by omega)) 0 9) (by omega)) 4).1 (by omega)
theorem tHang_ok {X S : Nat → Int} (h : TI X) (hl : X 2 < X 0) : TI (tHang X S) := TI_u (tDig_ok (TI_u (tDig_ok (tDig_ok (TI_tA h hl) 0 2) 0 (tHaM X S)) (by omega)) 0 5) (by omega)
def tKind (X S : Nat → Int) : Nat → Int := updZ X 4 (if X 2 < X 0 then tAt X S else 32)
def tEntry (X S : Nat → Int) : Nat → Int :=
  if (tKind X S) 4 = 114 then tReign (tKind X S) S else if (tKind X S) 4 = 100 then tDie (tKind X S) S else if (tKind X S) 4 = 107 then tCrack (tKind X S) S else if (tKind X S) 4 = 119 ∨ (tKind X S) 4 = 98 then tSeal (tKind X S) S else if (tKind X S) 4 = 104 then tHang (tKind X S) S else updZ (tKind X S) 3 1
theorem tKind_l {X S : Nat → Int} (h : ¬ (tKind X S) 4 = 32) : (tKind X S) 2 < (tKind X S) 0 := by
  show X 2 < X 0
  by_cases q : X 2 < X 0
  · exact q
  · exact absurd (show (if X 2 < X 0 then tAt X S else 32) = 32 from if_neg q) h
theorem tEntry_ok {X S : Nat → Int} (h : TI X) : TI (tEntry X S) := by
  have hk : TI (tKind X S) := TI_u h (by omega)
  have hl := tKind_l (X := X) (S := S)
  unfold tEntry
  split
  · exact tReign_ok hk (hl (by omega))
  · split
    · exact tDie_ok hk (hl (by omega))
    · split
      · exact tCrack_ok hk (hl (by omega))
      · split
        · exact tSeal_ok hk (hl (by omega))
        · split
          · exact tHang_ok hk (hl (by omega))
          · exact TI_f hk (by omega)
def tSemi (X S : Nat → Int) : Nat → Int := if 0 < X 2 then tSgn X S 59 else X
def tNext (X S : Nat → Int) : Bool × (Nat → Int) :=
  if 0 < X 2 ∧ X 0 ≤ X 2 then (false, X) else
  if (tSemi X S) 3 = 0 then (decide ((tEntry (tSemi X S) S) 3 = 0), tEntry (tSemi X S) S) else (false, tSemi X S)
theorem tSemi_ok {X S : Nat → Int} (h : TI X) : TI (tSemi X S) := by
  unfold tSemi
  split
  · exact tSgn_ok h 59
  · exact h
theorem tNext_ok {X S : Nat → Int} (h : TI X) : TI (tNext X S).2 := by
  unfold tNext
  split
  · exact h
  · split
    · exact tEntry_ok (tSemi_ok h)
    · exact tSemi_ok h

theorem cd_X7_readReign : cd yX7_readReign 0 := by decide +kernel
theorem in_X7_readReign_X7 : ∀ w ∈ wsX70, w ∈ wsX7_readReign := by decide +kernel
set_option maxHeartbeats 1000000 in
set_option maxRecDepth 100000 in
theorem c_X7_readReign (l : Launch) (g : va_G) (τ : Nat → ClassId) (ta : Nat → Nat) (X S : Nat → Int) (hS2 : SB S) (hT : TI X) (hl1 : X 2 < X 0)  : Met l yX7_readReign wsX7_readReign { frames := 3, cells := 0, slots := 0, locals := 66 } (va_Pc [Value.ref (ta 0)] (rwW g τ (txW ta X S τ))) (rwQ g (fun v w => v = none ∧ w = txW ta (tReign X S) S τ) (inW (txW ta X S τ))) 0 0 (inW (txW ta X S τ)) := by
  refine rwMet (cc := cX7_readReign) (maxL := 1) (ret := none) (lv := [(0, Value.ref (ta 0))]) (by decide) rfl (Nat.le_of_ble_eq_true rfl) rfl ?_
  intro p e s m below meth c hx hb hr hml hts hown hlocks A H hP hD hS hK ls hl
  refine lv_aload_n hx hb dX7_readReign_0 rfl (lv_at hl 0 rfl) ?_
  refine lv_dup hx hb dX7_readReign_1 rfl ?_
  refine va_get (D := g) (ci := 7) (v := Value.int (iI (X 2))) (C := RX7) (T := TX7) (N := 12) hx hb hts in_X7_readReign_X7 hown hK.1 hP 0 (rfl) rfl 2 (by decide) (hts _ (List.mem_of_getElem? (i := 1) rfl) : (Cond.fieldLink RX7 30 "CordSeals$Text" "at" "I").before _ s = true) (fun _ h9 => h9) rfl dX7_readReign_2 ?_
  refine lv_iconst (v := iI 1) hx hb dX7_readReign_5 (by decide) ?_
  refine zi_add hx hb dX7_readReign_6 ?_
  refine va_put (D := g) (ci := 7) (v := Value.int (iI ((X 2) + 1))) (ty := .int) (C := RX7) (T := TX7) (N := 12) hx hb hts in_X7_readReign_X7 tyX7 tyX7_ok nmX7 hown hK.1 hP hD hS 0 (rfl) rfl 2 (by decide) (hts _ (List.mem_of_getElem? (i := 1) rfl) : (Cond.fieldLink RX7 30 "CordSeals$Text" "at" "I").before _ s = true) (fun _ h9 => h9) rfl (by decide +kernel) rfl rfl (Nat.le_of_ble_eq_true rfl) dX7_readReign_7 (fun H locs hP hD hS => ?_)
  have hP : va_P g vwCl (txW ta (updZ X 2 ((X 2) + 1)) S τ) H := hP
  have hD : va_D A (txW ta (updZ X 2 ((X 2) + 1)) S τ) := hD
  have ht_1 : TI (updZ X 2 ((X 2) + 1)) := TI_a hT (by omega)
  refine lv_aload_n hx hb dX7_readReign_10 rfl (lv_at hl 0 rfl) ?_
  refine lv_aload_n hx hb dX7_readReign_11 rfl (lv_at hl 0 rfl) ?_
  refine rw_V (As := []) (rest := [Value.ref (ta 0)]) ⟨hx, hb, hml, hown, hts⟩ (c_X7_readYear l g τ ta (updZ X 2 ((X 2) + 1)) S hS2 ht_1) gX7_readReign_X7_readYear cd_X7_readYear rfl rfl ⟨rfl, rfl⟩ ⟨Nat.le_of_ble_eq_true rfl, Nat.le_of_ble_eq_true rfl⟩ hK hP hD hS [0, 1] (rfl) (by decide) 0 rfl rfl rfl rfl hl rfl (Nat.le_of_ble_eq_true rfl) dX7_readReign_12 ⟨Nat.le_of_ble_eq_true rfl, Nat.le_of_ble_eq_true rfl⟩ (fun v w h => by rw [h.2]; exact f_tx _ _ _ _ _) (fun v w1 H locs hZ hP hD hS => ?_)
  obtain ⟨rfl, rfl⟩ := hZ
  rw [b_tx] at hP hD
  generalize hqd_2 : tYr (updZ X 2 ((X 2) + 1)) S 3 = d_2 at hP hD ⊢
  have htd_2 : TI (d_2.2) := hqd_2 ▸ tYr_ok ht_1 3
  refine tl_some ?_
  refine va_put (D := g) (ci := 7) (v := Value.int (iI d_2.1)) (ty := .int) (C := RX7) (T := TX7) (N := 12) hx hb hts in_X7_readReign_X7 tyX7 tyX7_ok nmX7 hown hK.1 hP hD hS 0 (rfl) rfl 6 (by decide) (hts _ (List.mem_of_getElem? (i := 2) rfl) : (Cond.fieldLink RX7 62 "CordSeals$Text" "year" "I").before _ s = true) (fun _ h9 => h9) rfl (by decide +kernel) rfl rfl (Nat.le_of_ble_eq_true rfl) dX7_readReign_15 (fun H locs hP hD hS => ?_)
  have hP : va_P g vwCl (txW ta (updZ d_2.2 6 d_2.1) S τ) H := hP
  have hD : va_D A (txW ta (updZ d_2.2 6 d_2.1) S τ) := hD
  have ht_3 : TI (updZ d_2.2 6 d_2.1) := TI_u htd_2 (by omega)
  refine lv_aload_n hx hb dX7_readReign_18 rfl (lv_at hl 0 rfl) ?_
  refine lv_aload_n hx hb dX7_readReign_19 rfl (lv_at hl 0 rfl) ?_
  refine lv_bipush (v := iI 7) hx hb dX7_readReign_20 (by decide) ?_
  refine rw_V (As := [Value.int (iI 7)]) (rest := [Value.ref (ta 0)]) ⟨hx, hb, hml, hown, hts⟩ (c_X7_readRising l g τ ta (updZ d_2.2 6 d_2.1) S hS2 ht_3 7 (by omega)) gX7_readReign_X7_readRising cd_X7_readRising rfl rfl ⟨rfl, rfl⟩ ⟨Nat.le_of_ble_eq_true rfl, Nat.le_of_ble_eq_true rfl⟩ hK hP hD hS [0, 1] (rfl) (by decide) 0 rfl rfl rfl rfl hl rfl (Nat.le_of_ble_eq_true rfl) dX7_readReign_22 ⟨Nat.le_of_ble_eq_true rfl, Nat.le_of_ble_eq_true rfl⟩ (fun v w h => by rw [h.2]; exact f_tx _ _ _ _ _) (fun v w1 H locs hZ hP hD hS => ?_)
  obtain ⟨rfl, rfl⟩ := hZ
  rw [b_tx] at hP hD
  generalize hqd_4 : tRis (updZ d_2.2 6 d_2.1) S (Int.toNat 7 + 1) = d_4 at hP hD ⊢
  have htd_4 : TI (d_4.2) := hqd_4 ▸ (tRis_ok ht_3 (Int.toNat 7 + 1)).1
  have hrd_4 := (hqd_4 ▸ (tRis_ok ht_3 (Int.toNat 7 + 1)).2 : 0 ≤ d_4.1 ∧ d_4.1 < 2 ^ 8)
  refine tl_some ?_
  refine va_put (D := g) (ci := 7) (v := Value.int (iI d_4.1)) (ty := .int) (C := RX7) (T := TX7) (N := 12) hx hb hts in_X7_readReign_X7 tyX7 tyX7_ok nmX7 hown hK.1 hP hD hS 0 (rfl) rfl 10 (by decide) (hts _ (List.mem_of_getElem? (i := 3) rfl) : (Cond.fieldLink RX7 69 "CordSeals$Text" "set" "I").before _ s = true) (fun _ h9 => h9) rfl (by decide +kernel) rfl rfl (Nat.le_of_ble_eq_true rfl) dX7_readReign_25 (fun H locs hP hD hS => ?_)
  have hP : va_P g vwCl (txW ta (updZ d_4.2 10 d_4.1) S τ) H := hP
  have hD : va_D A (txW ta (updZ d_4.2 10 d_4.1) S τ) := hD
  have ht_5 : TI (updZ d_4.2 10 d_4.1) := TI_u htd_4 (by omega)
  refine lv_aload_n hx hb dX7_readReign_28 rfl (lv_at hl 0 rfl) ?_
  refine va_get (D := g) (ci := 7) (v := Value.int (iI d_4.1)) (C := RX7) (T := TX7) (N := 12) hx hb hts in_X7_readReign_X7 hown hK.1 hP 0 (rfl) rfl 10 (by decide) (hts _ (List.mem_of_getElem? (i := 3) rfl) : (Cond.fieldLink RX7 69 "CordSeals$Text" "set" "I").before _ s = true) (fun _ h9 => h9) rfl dX7_readReign_29 ?_
  refine zi_if_ne (tgt := 40) hx hb ⟨by omega, by omega⟩ dX7_readReign_32 (by decide) (fun c_6 => ?_) (fun c_6 => ?_)
  · have _ := c_6
    exact rw_vret hx hb hr hlocks hP hS (⟨rfl, by subst hqd_2; subst hqd_4; first | (rw [tReign, if_pos (by assumption)]; rfl) | (rw [tReign, if_neg (by assumption)]; rfl)⟩) dX7_readReign_40
  · have _ := c_6
    refine lv_aload_n hx hb dX7_readReign_35 rfl (lv_at hl 0 rfl) ?_
    refine lv_iconst (v := iI 1) hx hb dX7_readReign_36 (by decide) ?_
    refine va_put (D := g) (ci := 7) (v := Value.int (iI 1)) (ty := .boolean) (C := RX7) (T := TX7) (N := 12) hx hb hts in_X7_readReign_X7 tyX7 tyX7_ok nmX7 hown hK.1 hP hD hS 0 (rfl) rfl 3 (by decide) (hts _ (List.mem_of_getElem? (i := 4) rfl) : (Cond.fieldLink RX7 26 "CordSeals$Text" "failed" "Z").before _ s = true) (fun _ h9 => h9) rfl (by decide +kernel) (by first | rfl | decide | exact nar_b2 _) (by first | rfl | decide | exact fit_b2 _) (Nat.le_of_ble_eq_true rfl) dX7_readReign_37 (fun H locs hP hD hS => ?_)
    have hP : va_P g vwCl (txW ta (updZ (updZ d_4.2 10 d_4.1) 3 1) S τ) H := hP
    have hD : va_D A (txW ta (updZ (updZ d_4.2 10 d_4.1) 3 1) S τ) := hD
    have ht_7 : TI (updZ (updZ d_4.2 10 d_4.1) 3 1) := TI_f ht_5 (by first | exact ⟨by omega, by omega⟩)
    exact rw_vret hx hb hr hlocks hP hS (⟨rfl, by subst hqd_2; subst hqd_4; first | (rw [tReign, if_pos (by assumption)]; rfl) | (rw [tReign, if_neg (by assumption)]; rfl)⟩) dX7_readReign_40

theorem cd_X7_readDie : cd yX7_readDie 0 := by decide +kernel
theorem in_X7_readDie_X7 : ∀ w ∈ wsX70, w ∈ wsX7_readDie := by decide +kernel
set_option maxHeartbeats 1000000 in
set_option maxRecDepth 100000 in
theorem c_X7_readDie (l : Launch) (g : va_G) (τ : Nat → ClassId) (ta : Nat → Nat) (X S : Nat → Int) (hS2 : SB S) (hT : TI X) (hl1 : X 2 < X 0)  : Met l yX7_readDie wsX7_readDie { frames := 3, cells := 0, slots := 0, locals := 66 } (va_Pc [Value.ref (ta 0)] (rwW g τ (txW ta X S τ))) (rwQ g (fun v w => v = none ∧ w = txW ta (tDie X S) S τ) (inW (txW ta X S τ))) 0 0 (inW (txW ta X S τ)) := by
  refine rwMet (cc := cX7_readDie) (maxL := 1) (ret := none) (lv := [(0, Value.ref (ta 0))]) (by decide) rfl (Nat.le_of_ble_eq_true rfl) rfl ?_
  intro p e s m below meth c hx hb hr hml hts hown hlocks A H hP hD hS hK ls hl
  refine lv_aload_n hx hb dX7_readDie_0 rfl (lv_at hl 0 rfl) ?_
  refine lv_dup hx hb dX7_readDie_1 rfl ?_
  refine va_get (D := g) (ci := 7) (v := Value.int (iI (X 2))) (C := RX7) (T := TX7) (N := 12) hx hb hts in_X7_readDie_X7 hown hK.1 hP 0 (rfl) rfl 2 (by decide) (hts _ (List.mem_of_getElem? (i := 1) rfl) : (Cond.fieldLink RX7 30 "CordSeals$Text" "at" "I").before _ s = true) (fun _ h9 => h9) rfl dX7_readDie_2 ?_
  refine lv_iconst (v := iI 1) hx hb dX7_readDie_5 (by decide) ?_
  refine zi_add hx hb dX7_readDie_6 ?_
  refine va_put (D := g) (ci := 7) (v := Value.int (iI ((X 2) + 1))) (ty := .int) (C := RX7) (T := TX7) (N := 12) hx hb hts in_X7_readDie_X7 tyX7 tyX7_ok nmX7 hown hK.1 hP hD hS 0 (rfl) rfl 2 (by decide) (hts _ (List.mem_of_getElem? (i := 1) rfl) : (Cond.fieldLink RX7 30 "CordSeals$Text" "at" "I").before _ s = true) (fun _ h9 => h9) rfl (by decide +kernel) rfl rfl (Nat.le_of_ble_eq_true rfl) dX7_readDie_7 (fun H locs hP hD hS => ?_)
  have hP : va_P g vwCl (txW ta (updZ X 2 ((X 2) + 1)) S τ) H := hP
  have hD : va_D A (txW ta (updZ X 2 ((X 2) + 1)) S τ) := hD
  have ht_1 : TI (updZ X 2 ((X 2) + 1)) := TI_a hT (by omega)
  refine lv_aload_n hx hb dX7_readDie_10 rfl (lv_at hl 0 rfl) ?_
  refine lv_aload_n hx hb dX7_readDie_11 rfl (lv_at hl 0 rfl) ?_
  refine lv_iconst (v := iI 0) hx hb dX7_readDie_12 (by decide) ?_
  refine lv_iconst (v := iI 5) hx hb dX7_readDie_13 (by decide) ?_
  refine rw_V (As := [Value.int (iI 0), Value.int (iI 5)]) (rest := [Value.ref (ta 0)]) ⟨hx, hb, hml, hown, hts⟩ (c_X7_readDigit l g τ ta (updZ X 2 ((X 2) + 1)) S hS2 ht_1 0 5 (by omega) (by omega)) gX7_readDie_X7_readDigit cd_X7_readDigit rfl rfl ⟨rfl, rfl⟩ ⟨Nat.le_of_ble_eq_true rfl, Nat.le_of_ble_eq_true rfl⟩ hK hP hD hS [0, 1] (rfl) (by decide) 0 rfl rfl rfl rfl hl rfl (Nat.le_of_ble_eq_true rfl) dX7_readDie_14 ⟨Nat.le_of_ble_eq_true rfl, Nat.le_of_ble_eq_true rfl⟩ (fun v w h => by rw [h.2]; exact f_tx _ _ _ _ _) (fun v w1 H locs hZ hP hD hS => ?_)
  obtain ⟨rfl, rfl⟩ := hZ
  rw [b_tx] at hP hD
  generalize hqd_2 : tDig (updZ X 2 ((X 2) + 1)) S 0 5 = d_2 at hP hD ⊢
  have htd_2 : TI (d_2.2) := hqd_2 ▸ tDig_ok ht_1 0 5
  have hrd_2 := (hqd_2 ▸ tDig_r (X := updZ X 2 ((X 2) + 1)) (S := S) (a := 0) (b := 5) (by omega) (by omega) : 0 ≤ d_2.1 ∧ d_2.1 ≤ 5)
  refine tl_some ?_
  refine va_put (D := g) (ci := 7) (v := Value.int (iI d_2.1)) (ty := .int) (C := RX7) (T := TX7) (N := 12) hx hb hts in_X7_readDie_X7 tyX7 tyX7_ok nmX7 hown hK.1 hP hD hS 0 (rfl) rfl 5 (by decide) (hts _ (List.mem_of_getElem? (i := 2) rfl) : (Cond.fieldLink RX7 76 "CordSeals$Text" "number" "I").before _ s = true) (fun _ h9 => h9) rfl (by decide +kernel) rfl rfl (Nat.le_of_ble_eq_true rfl) dX7_readDie_17 (fun H locs hP hD hS => ?_)
  have hP : va_P g vwCl (txW ta (updZ d_2.2 5 d_2.1) S τ) H := hP
  have hD : va_D A (txW ta (updZ d_2.2 5 d_2.1) S τ) := hD
  have ht_3 : TI (updZ d_2.2 5 d_2.1) := TI_u htd_2 (by omega)
  refine lv_aload_n hx hb dX7_readDie_20 rfl (lv_at hl 0 rfl) ?_
  refine lv_aload_n hx hb dX7_readDie_21 rfl (lv_at hl 0 rfl) ?_
  refine rw_V (As := []) (rest := [Value.ref (ta 0)]) ⟨hx, hb, hml, hown, hts⟩ (c_X7_readYear l g τ ta (updZ d_2.2 5 d_2.1) S hS2 ht_3) gX7_readDie_X7_readYear cd_X7_readYear rfl rfl ⟨rfl, rfl⟩ ⟨Nat.le_of_ble_eq_true rfl, Nat.le_of_ble_eq_true rfl⟩ hK hP hD hS [0, 1] (rfl) (by decide) 0 rfl rfl rfl rfl hl rfl (Nat.le_of_ble_eq_true rfl) dX7_readDie_22 ⟨Nat.le_of_ble_eq_true rfl, Nat.le_of_ble_eq_true rfl⟩ (fun v w h => by rw [h.2]; exact f_tx _ _ _ _ _) (fun v w1 H locs hZ hP hD hS => ?_)
  obtain ⟨rfl, rfl⟩ := hZ
  rw [b_tx] at hP hD
  generalize hqd_4 : tYr (updZ d_2.2 5 d_2.1) S 3 = d_4 at hP hD ⊢
  have htd_4 : TI (d_4.2) := hqd_4 ▸ tYr_ok ht_3 3
  refine tl_some ?_
  refine va_put (D := g) (ci := 7) (v := Value.int (iI d_4.1)) (ty := .int) (C := RX7) (T := TX7) (N := 12) hx hb hts in_X7_readDie_X7 tyX7 tyX7_ok nmX7 hown hK.1 hP hD hS 0 (rfl) rfl 6 (by decide) (hts _ (List.mem_of_getElem? (i := 3) rfl) : (Cond.fieldLink RX7 62 "CordSeals$Text" "year" "I").before _ s = true) (fun _ h9 => h9) rfl (by decide +kernel) rfl rfl (Nat.le_of_ble_eq_true rfl) dX7_readDie_25 (fun H locs hP hD hS => ?_)
  have hP : va_P g vwCl (txW ta (updZ d_4.2 6 d_4.1) S τ) H := hP
  have hD : va_D A (txW ta (updZ d_4.2 6 d_4.1) S τ) := hD
  have ht_5 : TI (updZ d_4.2 6 d_4.1) := TI_u htd_4 (by omega)
  refine lv_aload_n hx hb dX7_readDie_28 rfl (lv_at hl 0 rfl) ?_
  refine lv_bipush (v := iI 45) hx hb dX7_readDie_29 (by decide) ?_
  refine rw_V (As := [Value.int (iI 45)]) (rest := []) ⟨hx, hb, hml, hown, hts⟩ (c_X7_readSign l g τ ta (updZ d_4.2 6 d_4.1) S hS2 ht_5 45 (by omega)) gX7_readDie_X7_readSign cd_X7_readSign rfl rfl ⟨rfl, rfl⟩ ⟨Nat.le_of_ble_eq_true rfl, Nat.le_of_ble_eq_true rfl⟩ hK hP hD hS [0, 1] (rfl) (by decide) 0 rfl rfl rfl rfl hl rfl (Nat.le_of_ble_eq_true rfl) dX7_readDie_31 ⟨Nat.le_of_ble_eq_true rfl, Nat.le_of_ble_eq_true rfl⟩ (fun v w h => by rw [h.2]; exact f_tx _ _ _ _ _) (fun v w1 H locs hZ hP hD hS => ?_)
  obtain ⟨rfl, rfl⟩ := hZ
  rw [b_tx] at hP hD
  generalize hqd_6 : tSgn (updZ d_4.2 6 d_4.1) S 45 = d_6 at hP hD ⊢
  have htd_6 : TI (d_6) := hqd_6 ▸ tSgn_ok ht_5 45
  refine tl_none ?_
  refine lv_aload_n hx hb dX7_readDie_34 rfl (lv_at hl 0 rfl) ?_
  refine lv_aload_n hx hb dX7_readDie_35 rfl (lv_at hl 0 rfl) ?_
  refine rw_V (As := []) (rest := [Value.ref (ta 0)]) ⟨hx, hb, hml, hown, hts⟩ (c_X7_readYear l g τ ta d_6 S hS2 htd_6) gX7_readDie_X7_readYear cd_X7_readYear rfl rfl ⟨rfl, rfl⟩ ⟨Nat.le_of_ble_eq_true rfl, Nat.le_of_ble_eq_true rfl⟩ hK hP hD hS [0, 1] (rfl) (by decide) 0 rfl rfl rfl rfl hl rfl (Nat.le_of_ble_eq_true rfl) dX7_readDie_36 ⟨Nat.le_of_ble_eq_true rfl, Nat.le_of_ble_eq_true rfl⟩ (fun v w h => by rw [h.2]; exact f_tx _ _ _ _ _) (fun v w1 H locs hZ hP hD hS => ?_)
  obtain ⟨rfl, rfl⟩ := hZ
  rw [b_tx] at hP hD
  generalize hqd_7 : tYr d_6 S 3 = d_7 at hP hD ⊢
  have htd_7 : TI (d_7.2) := hqd_7 ▸ tYr_ok htd_6 3
  refine tl_some ?_
  refine va_put (D := g) (ci := 7) (v := Value.int (iI d_7.1)) (ty := .int) (C := RX7) (T := TX7) (N := 12) hx hb hts in_X7_readDie_X7 tyX7 tyX7_ok nmX7 hown hK.1 hP hD hS 0 (rfl) rfl 7 (by decide) (hts _ (List.mem_of_getElem? (i := 4) rfl) : (Cond.fieldLink RX7 79 "CordSeals$Text" "lastYear" "I").before _ s = true) (fun _ h9 => h9) rfl (by decide +kernel) rfl rfl (Nat.le_of_ble_eq_true rfl) dX7_readDie_39 (fun H locs hP hD hS => ?_)
  have hP : va_P g vwCl (txW ta (updZ d_7.2 7 d_7.1) S τ) H := hP
  have hD : va_D A (txW ta (updZ d_7.2 7 d_7.1) S τ) := hD
  have ht_8 : TI (updZ d_7.2 7 d_7.1) := TI_u htd_7 (by omega)
  exact rw_vret hx hb hr hlocks hP hS (⟨rfl, by subst hqd_2; subst hqd_4; subst hqd_6; subst hqd_7; rfl⟩) dX7_readDie_42

theorem cd_X7_readCrack : cd yX7_readCrack 0 := by decide +kernel
theorem in_X7_readCrack_X7 : ∀ w ∈ wsX70, w ∈ wsX7_readCrack := by decide +kernel
set_option maxHeartbeats 1000000 in
set_option maxRecDepth 100000 in
theorem c_X7_readCrack (l : Launch) (g : va_G) (τ : Nat → ClassId) (ta : Nat → Nat) (X S : Nat → Int) (hS2 : SB S) (hT : TI X) (hl1 : X 2 < X 0)  : Met l yX7_readCrack wsX7_readCrack { frames := 3, cells := 0, slots := 0, locals := 66 } (va_Pc [Value.ref (ta 0)] (rwW g τ (txW ta X S τ))) (rwQ g (fun v w => v = none ∧ w = txW ta (tCrack X S) S τ) (inW (txW ta X S τ))) 0 0 (inW (txW ta X S τ)) := by
  refine rwMet (cc := cX7_readCrack) (maxL := 1) (ret := none) (lv := [(0, Value.ref (ta 0))]) (by decide) rfl (Nat.le_of_ble_eq_true rfl) rfl ?_
  intro p e s m below meth c hx hb hr hml hts hown hlocks A H hP hD hS hK ls hl
  refine lv_aload_n hx hb dX7_readCrack_0 rfl (lv_at hl 0 rfl) ?_
  refine lv_dup hx hb dX7_readCrack_1 rfl ?_
  refine va_get (D := g) (ci := 7) (v := Value.int (iI (X 2))) (C := RX7) (T := TX7) (N := 12) hx hb hts in_X7_readCrack_X7 hown hK.1 hP 0 (rfl) rfl 2 (by decide) (hts _ (List.mem_of_getElem? (i := 1) rfl) : (Cond.fieldLink RX7 30 "CordSeals$Text" "at" "I").before _ s = true) (fun _ h9 => h9) rfl dX7_readCrack_2 ?_
  refine lv_iconst (v := iI 1) hx hb dX7_readCrack_5 (by decide) ?_
  refine zi_add hx hb dX7_readCrack_6 ?_
  refine va_put (D := g) (ci := 7) (v := Value.int (iI ((X 2) + 1))) (ty := .int) (C := RX7) (T := TX7) (N := 12) hx hb hts in_X7_readCrack_X7 tyX7 tyX7_ok nmX7 hown hK.1 hP hD hS 0 (rfl) rfl 2 (by decide) (hts _ (List.mem_of_getElem? (i := 1) rfl) : (Cond.fieldLink RX7 30 "CordSeals$Text" "at" "I").before _ s = true) (fun _ h9 => h9) rfl (by decide +kernel) rfl rfl (Nat.le_of_ble_eq_true rfl) dX7_readCrack_7 (fun H locs hP hD hS => ?_)
  have hP : va_P g vwCl (txW ta (updZ X 2 ((X 2) + 1)) S τ) H := hP
  have hD : va_D A (txW ta (updZ X 2 ((X 2) + 1)) S τ) := hD
  have ht_1 : TI (updZ X 2 ((X 2) + 1)) := TI_a hT (by omega)
  refine lv_aload_n hx hb dX7_readCrack_10 rfl (lv_at hl 0 rfl) ?_
  refine lv_aload_n hx hb dX7_readCrack_11 rfl (lv_at hl 0 rfl) ?_
  refine lv_iconst (v := iI 0) hx hb dX7_readCrack_12 (by decide) ?_
  refine lv_bipush (v := iI 9) hx hb dX7_readCrack_13 (by decide) ?_
  refine rw_V (As := [Value.int (iI 0), Value.int (iI 9)]) (rest := [Value.ref (ta 0)]) ⟨hx, hb, hml, hown, hts⟩ (c_X7_readDigit l g τ ta (updZ X 2 ((X 2) + 1)) S hS2 ht_1 0 9 (by omega) (by omega)) gX7_readCrack_X7_readDigit cd_X7_readDigit rfl rfl ⟨rfl, rfl⟩ ⟨Nat.le_of_ble_eq_true rfl, Nat.le_of_ble_eq_true rfl⟩ hK hP hD hS [0, 1] (rfl) (by decide) 0 rfl rfl rfl rfl hl rfl (Nat.le_of_ble_eq_true rfl) dX7_readCrack_15 ⟨Nat.le_of_ble_eq_true rfl, Nat.le_of_ble_eq_true rfl⟩ (fun v w h => by rw [h.2]; exact f_tx _ _ _ _ _) (fun v w1 H locs hZ hP hD hS => ?_)
  obtain ⟨rfl, rfl⟩ := hZ
  rw [b_tx] at hP hD
  generalize hqd_2 : tDig (updZ X 2 ((X 2) + 1)) S 0 9 = d_2 at hP hD ⊢
  have htd_2 : TI (d_2.2) := hqd_2 ▸ tDig_ok ht_1 0 9
  have hrd_2 := (hqd_2 ▸ tDig_r (X := updZ X 2 ((X 2) + 1)) (S := S) (a := 0) (b := 9) (by omega) (by omega) : 0 ≤ d_2.1 ∧ d_2.1 ≤ 9)
  refine tl_some ?_
  refine va_put (D := g) (ci := 7) (v := Value.int (iI d_2.1)) (ty := .int) (C := RX7) (T := TX7) (N := 12) hx hb hts in_X7_readCrack_X7 tyX7 tyX7_ok nmX7 hown hK.1 hP hD hS 0 (rfl) rfl 5 (by decide) (hts _ (List.mem_of_getElem? (i := 2) rfl) : (Cond.fieldLink RX7 76 "CordSeals$Text" "number" "I").before _ s = true) (fun _ h9 => h9) rfl (by decide +kernel) rfl rfl (Nat.le_of_ble_eq_true rfl) dX7_readCrack_18 (fun H locs hP hD hS => ?_)
  have hP : va_P g vwCl (txW ta (updZ d_2.2 5 d_2.1) S τ) H := hP
  have hD : va_D A (txW ta (updZ d_2.2 5 d_2.1) S τ) := hD
  have ht_3 : TI (updZ d_2.2 5 d_2.1) := TI_u htd_2 (by omega)
  refine lv_aload_n hx hb dX7_readCrack_21 rfl (lv_at hl 0 rfl) ?_
  refine lv_aload_n hx hb dX7_readCrack_22 rfl (lv_at hl 0 rfl) ?_
  refine rw_V (As := []) (rest := [Value.ref (ta 0)]) ⟨hx, hb, hml, hown, hts⟩ (c_X7_readYear l g τ ta (updZ d_2.2 5 d_2.1) S hS2 ht_3) gX7_readCrack_X7_readYear cd_X7_readYear rfl rfl ⟨rfl, rfl⟩ ⟨Nat.le_of_ble_eq_true rfl, Nat.le_of_ble_eq_true rfl⟩ hK hP hD hS [0, 1] (rfl) (by decide) 0 rfl rfl rfl rfl hl rfl (Nat.le_of_ble_eq_true rfl) dX7_readCrack_23 ⟨Nat.le_of_ble_eq_true rfl, Nat.le_of_ble_eq_true rfl⟩ (fun v w h => by rw [h.2]; exact f_tx _ _ _ _ _) (fun v w1 H locs hZ hP hD hS => ?_)
  obtain ⟨rfl, rfl⟩ := hZ
  rw [b_tx] at hP hD
  generalize hqd_4 : tYr (updZ d_2.2 5 d_2.1) S 3 = d_4 at hP hD ⊢
  have htd_4 : TI (d_4.2) := hqd_4 ▸ tYr_ok ht_3 3
  refine tl_some ?_
  refine va_put (D := g) (ci := 7) (v := Value.int (iI d_4.1)) (ty := .int) (C := RX7) (T := TX7) (N := 12) hx hb hts in_X7_readCrack_X7 tyX7 tyX7_ok nmX7 hown hK.1 hP hD hS 0 (rfl) rfl 6 (by decide) (hts _ (List.mem_of_getElem? (i := 3) rfl) : (Cond.fieldLink RX7 62 "CordSeals$Text" "year" "I").before _ s = true) (fun _ h9 => h9) rfl (by decide +kernel) rfl rfl (Nat.le_of_ble_eq_true rfl) dX7_readCrack_26 (fun H locs hP hD hS => ?_)
  have hP : va_P g vwCl (txW ta (updZ d_4.2 6 d_4.1) S τ) H := hP
  have hD : va_D A (txW ta (updZ d_4.2 6 d_4.1) S τ) := hD
  have ht_5 : TI (updZ d_4.2 6 d_4.1) := TI_u htd_4 (by omega)
  exact rw_vret hx hb hr hlocks hP hS (⟨rfl, by subst hqd_2; subst hqd_4; rfl⟩) dX7_readCrack_29

theorem cd_X7_readSeal : cd yX7_readSeal 0 := by decide +kernel
theorem in_X7_readSeal_X7 : ∀ w ∈ wsX70, w ∈ wsX7_readSeal := by decide +kernel
set_option maxHeartbeats 1000000 in
set_option maxRecDepth 100000 in
theorem c_X7_readSeal (l : Launch) (g : va_G) (τ : Nat → ClassId) (ta : Nat → Nat) (X S : Nat → Int) (hS2 : SB S) (hT : TI X) (hl1 : X 2 < X 0)  : Met l yX7_readSeal wsX7_readSeal { frames := 3, cells := 0, slots := 0, locals := 64 } (va_Pc [Value.ref (ta 0)] (rwW g τ (txW ta X S τ))) (rwQ g (fun v w => v = none ∧ w = txW ta (tSeal X S) S τ) (inW (txW ta X S τ))) 0 0 (inW (txW ta X S τ)) := by
  refine rwMet (cc := cX7_readSeal) (maxL := 1) (ret := none) (lv := [(0, Value.ref (ta 0))]) (by decide) rfl (Nat.le_of_ble_eq_true rfl) rfl ?_
  intro p e s m below meth c hx hb hr hml hts hown hlocks A H hP hD hS hK ls hl
  refine lv_aload_n hx hb dX7_readSeal_0 rfl (lv_at hl 0 rfl) ?_
  refine lv_dup hx hb dX7_readSeal_1 rfl ?_
  refine va_get (D := g) (ci := 7) (v := Value.int (iI (X 2))) (C := RX7) (T := TX7) (N := 12) hx hb hts in_X7_readSeal_X7 hown hK.1 hP 0 (rfl) rfl 2 (by decide) (hts _ (List.mem_of_getElem? (i := 1) rfl) : (Cond.fieldLink RX7 30 "CordSeals$Text" "at" "I").before _ s = true) (fun _ h9 => h9) rfl dX7_readSeal_2 ?_
  refine lv_iconst (v := iI 1) hx hb dX7_readSeal_5 (by decide) ?_
  refine zi_add hx hb dX7_readSeal_6 ?_
  refine va_put (D := g) (ci := 7) (v := Value.int (iI ((X 2) + 1))) (ty := .int) (C := RX7) (T := TX7) (N := 12) hx hb hts in_X7_readSeal_X7 tyX7 tyX7_ok nmX7 hown hK.1 hP hD hS 0 (rfl) rfl 2 (by decide) (hts _ (List.mem_of_getElem? (i := 1) rfl) : (Cond.fieldLink RX7 30 "CordSeals$Text" "at" "I").before _ s = true) (fun _ h9 => h9) rfl (by decide +kernel) rfl rfl (Nat.le_of_ble_eq_true rfl) dX7_readSeal_7 (fun H locs hP hD hS => ?_)
  have hP : va_P g vwCl (txW ta (updZ X 2 ((X 2) + 1)) S τ) H := hP
  have hD : va_D A (txW ta (updZ X 2 ((X 2) + 1)) S τ) := hD
  have ht_1 : TI (updZ X 2 ((X 2) + 1)) := TI_a hT (by omega)
  refine lv_aload_n hx hb dX7_readSeal_10 rfl (lv_at hl 0 rfl) ?_
  refine lv_aload_n hx hb dX7_readSeal_11 rfl (lv_at hl 0 rfl) ?_
  refine lv_iconst (v := iI 0) hx hb dX7_readSeal_12 (by decide) ?_
  refine lv_bipush (v := iI 9) hx hb dX7_readSeal_13 (by decide) ?_
  refine rw_V (As := [Value.int (iI 0), Value.int (iI 9)]) (rest := [Value.ref (ta 0)]) ⟨hx, hb, hml, hown, hts⟩ (c_X7_readDigit l g τ ta (updZ X 2 ((X 2) + 1)) S hS2 ht_1 0 9 (by omega) (by omega)) gX7_readSeal_X7_readDigit cd_X7_readDigit rfl rfl ⟨rfl, rfl⟩ ⟨Nat.le_of_ble_eq_true rfl, Nat.le_of_ble_eq_true rfl⟩ hK hP hD hS [0, 1] (rfl) (by decide) 0 rfl rfl rfl rfl hl rfl (Nat.le_of_ble_eq_true rfl) dX7_readSeal_15 ⟨Nat.le_of_ble_eq_true rfl, Nat.le_of_ble_eq_true rfl⟩ (fun v w h => by rw [h.2]; exact f_tx _ _ _ _ _) (fun v w1 H locs hZ hP hD hS => ?_)
  obtain ⟨rfl, rfl⟩ := hZ
  rw [b_tx] at hP hD
  generalize hqd_2 : tDig (updZ X 2 ((X 2) + 1)) S 0 9 = d_2 at hP hD ⊢
  have htd_2 : TI (d_2.2) := hqd_2 ▸ tDig_ok ht_1 0 9
  have hrd_2 := (hqd_2 ▸ tDig_r (X := updZ X 2 ((X 2) + 1)) (S := S) (a := 0) (b := 9) (by omega) (by omega) : 0 ≤ d_2.1 ∧ d_2.1 ≤ 9)
  refine tl_some ?_
  refine va_put (D := g) (ci := 7) (v := Value.int (iI d_2.1)) (ty := .int) (C := RX7) (T := TX7) (N := 12) hx hb hts in_X7_readSeal_X7 tyX7 tyX7_ok nmX7 hown hK.1 hP hD hS 0 (rfl) rfl 5 (by decide) (hts _ (List.mem_of_getElem? (i := 2) rfl) : (Cond.fieldLink RX7 76 "CordSeals$Text" "number" "I").before _ s = true) (fun _ h9 => h9) rfl (by decide +kernel) rfl rfl (Nat.le_of_ble_eq_true rfl) dX7_readSeal_18 (fun H locs hP hD hS => ?_)
  have hP : va_P g vwCl (txW ta (updZ d_2.2 5 d_2.1) S τ) H := hP
  have hD : va_D A (txW ta (updZ d_2.2 5 d_2.1) S τ) := hD
  have ht_3 : TI (updZ d_2.2 5 d_2.1) := TI_u htd_2 (by omega)
  refine lv_aload_n hx hb dX7_readSeal_21 rfl (lv_at hl 0 rfl) ?_
  refine lv_aload_n hx hb dX7_readSeal_22 rfl (lv_at hl 0 rfl) ?_
  refine rw_V (As := []) (rest := [Value.ref (ta 0)]) ⟨hx, hb, hml, hown, hts⟩ (c_X7_readColour l g τ ta (updZ d_2.2 5 d_2.1) S hS2 ht_3) gX7_readSeal_X7_readColour cd_X7_readColour rfl rfl ⟨rfl, rfl⟩ ⟨Nat.le_of_ble_eq_true rfl, Nat.le_of_ble_eq_true rfl⟩ hK hP hD hS [0, 1] (rfl) (by decide) 0 rfl rfl rfl rfl hl rfl (Nat.le_of_ble_eq_true rfl) dX7_readSeal_23 ⟨Nat.le_of_ble_eq_true rfl, Nat.le_of_ble_eq_true rfl⟩ (fun v w h => by rw [h.2]; exact f_tx _ _ _ _ _) (fun v w1 H locs hZ hP hD hS => ?_)
  obtain ⟨rfl, rfl⟩ := hZ
  rw [b_tx] at hP hD
  generalize hqd_4 : tCol (updZ d_2.2 5 d_2.1) S = d_4 at hP hD ⊢
  have htd_4 : TI (d_4.2) := hqd_4 ▸ tCol_ok ht_3
  refine tl_some ?_
  refine va_put (D := g) (ci := 7) (v := Value.int (iI d_4.1)) (ty := .int) (C := RX7) (T := TX7) (N := 12) hx hb hts in_X7_readSeal_X7 tyX7 tyX7_ok nmX7 hown hK.1 hP hD hS 0 (rfl) rfl 8 (by decide) (hts _ (List.mem_of_getElem? (i := 3) rfl) : (Cond.fieldLink RX7 85 "CordSeals$Text" "colour" "I").before _ s = true) (fun _ h9 => h9) rfl (by decide +kernel) rfl rfl (Nat.le_of_ble_eq_true rfl) dX7_readSeal_26 (fun H locs hP hD hS => ?_)
  have hP : va_P g vwCl (txW ta (updZ d_4.2 8 d_4.1) S τ) H := hP
  have hD : va_D A (txW ta (updZ d_4.2 8 d_4.1) S τ) := hD
  have ht_5 : TI (updZ d_4.2 8 d_4.1) := TI_u htd_4 (by omega)
  refine lv_aload_n hx hb dX7_readSeal_29 rfl (lv_at hl 0 rfl) ?_
  refine lv_bipush (v := iI 10) hx hb dX7_readSeal_30 (by decide) ?_
  refine lv_aload_n hx hb dX7_readSeal_32 rfl (lv_at hl 0 rfl) ?_
  refine lv_iconst (v := iI 0) hx hb dX7_readSeal_33 (by decide) ?_
  refine lv_bipush (v := iI 9) hx hb dX7_readSeal_34 (by decide) ?_
  refine rw_V (As := [Value.int (iI 0), Value.int (iI 9)]) (rest := [Value.int (iI 10), Value.ref (ta 0)]) ⟨hx, hb, hml, hown, hts⟩ (c_X7_readDigit l g τ ta (updZ d_4.2 8 d_4.1) S hS2 ht_5 0 9 (by omega) (by omega)) gX7_readSeal_X7_readDigit cd_X7_readDigit rfl rfl ⟨rfl, rfl⟩ ⟨Nat.le_of_ble_eq_true rfl, Nat.le_of_ble_eq_true rfl⟩ hK hP hD hS [0, 1] (rfl) (by decide) 0 rfl rfl rfl rfl hl rfl (Nat.le_of_ble_eq_true rfl) dX7_readSeal_36 ⟨Nat.le_of_ble_eq_true rfl, Nat.le_of_ble_eq_true rfl⟩ (fun v w h => by rw [h.2]; exact f_tx _ _ _ _ _) (fun v w1 H locs hZ hP hD hS => ?_)
  obtain ⟨rfl, rfl⟩ := hZ
  rw [b_tx] at hP hD
  generalize hqd_6 : tDig (updZ d_4.2 8 d_4.1) S 0 9 = d_6 at hP hD ⊢
  have htd_6 : TI (d_6.2) := hqd_6 ▸ tDig_ok ht_5 0 9
  have hrd_6 := (hqd_6 ▸ tDig_r (X := updZ d_4.2 8 d_4.1) (S := S) (a := 0) (b := 9) (by omega) (by omega) : 0 ≤ d_6.1 ∧ d_6.1 ≤ 9)
  refine tl_some ?_
  refine zi_mul hx hb dX7_readSeal_39 ?_
  refine va_put (D := g) (ci := 7) (v := Value.int (iI (10 * d_6.1))) (ty := .int) (C := RX7) (T := TX7) (N := 12) hx hb hts in_X7_readSeal_X7 tyX7 tyX7_ok nmX7 hown hK.1 hP hD hS 0 (rfl) rfl 9 (by decide) (hts _ (List.mem_of_getElem? (i := 4) rfl) : (Cond.fieldLink RX7 88 "CordSeals$Text" "bubbles" "I").before _ s = true) (fun _ h9 => h9) rfl (by decide +kernel) rfl rfl (Nat.le_of_ble_eq_true rfl) dX7_readSeal_40 (fun H locs hP hD hS => ?_)
  have hP : va_P g vwCl (txW ta (updZ d_6.2 9 (10 * d_6.1)) S τ) H := hP
  have hD : va_D A (txW ta (updZ d_6.2 9 (10 * d_6.1)) S τ) := hD
  have ht_7 : TI (updZ d_6.2 9 (10 * d_6.1)) := TI_u htd_6 (by omega)
  refine lv_aload_n hx hb dX7_readSeal_43 rfl (lv_at hl 0 rfl) ?_
  refine lv_dup hx hb dX7_readSeal_44 rfl ?_
  refine va_get (D := g) (ci := 7) (v := Value.int (iI (10 * d_6.1))) (C := RX7) (T := TX7) (N := 12) hx hb hts in_X7_readSeal_X7 hown hK.1 hP 0 (rfl) rfl 9 (by decide) (hts _ (List.mem_of_getElem? (i := 4) rfl) : (Cond.fieldLink RX7 88 "CordSeals$Text" "bubbles" "I").before _ s = true) (fun _ h9 => h9) rfl dX7_readSeal_45 ?_
  refine lv_aload_n hx hb dX7_readSeal_48 rfl (lv_at hl 0 rfl) ?_
  refine lv_iconst (v := iI 0) hx hb dX7_readSeal_49 (by decide) ?_
  refine lv_bipush (v := iI 9) hx hb dX7_readSeal_50 (by decide) ?_
  refine rw_V (As := [Value.int (iI 0), Value.int (iI 9)]) (rest := [Value.int (iI (10 * d_6.1)), Value.ref (ta 0)]) ⟨hx, hb, hml, hown, hts⟩ (c_X7_readDigit l g τ ta (updZ d_6.2 9 (10 * d_6.1)) S hS2 ht_7 0 9 (by omega) (by omega)) gX7_readSeal_X7_readDigit cd_X7_readDigit rfl rfl ⟨rfl, rfl⟩ ⟨Nat.le_of_ble_eq_true rfl, Nat.le_of_ble_eq_true rfl⟩ hK hP hD hS [0, 1] (rfl) (by decide) 0 rfl rfl rfl rfl hl rfl (Nat.le_of_ble_eq_true rfl) dX7_readSeal_52 ⟨Nat.le_of_ble_eq_true rfl, Nat.le_of_ble_eq_true rfl⟩ (fun v w h => by rw [h.2]; exact f_tx _ _ _ _ _) (fun v w1 H locs hZ hP hD hS => ?_)
  obtain ⟨rfl, rfl⟩ := hZ
  rw [b_tx] at hP hD
  generalize hqd_8 : tDig (updZ d_6.2 9 (10 * d_6.1)) S 0 9 = d_8 at hP hD ⊢
  have htd_8 : TI (d_8.2) := hqd_8 ▸ tDig_ok ht_7 0 9
  have hrd_8 := (hqd_8 ▸ tDig_r (X := updZ d_6.2 9 (10 * d_6.1)) (S := S) (a := 0) (b := 9) (by omega) (by omega) : 0 ≤ d_8.1 ∧ d_8.1 ≤ 9)
  refine tl_some ?_
  refine zi_add hx hb dX7_readSeal_55 ?_
  refine va_put (D := g) (ci := 7) (v := Value.int (iI ((10 * d_6.1) + d_8.1))) (ty := .int) (C := RX7) (T := TX7) (N := 12) hx hb hts in_X7_readSeal_X7 tyX7 tyX7_ok nmX7 hown hK.1 hP hD hS 0 (rfl) rfl 9 (by decide) (hts _ (List.mem_of_getElem? (i := 4) rfl) : (Cond.fieldLink RX7 88 "CordSeals$Text" "bubbles" "I").before _ s = true) (fun _ h9 => h9) rfl (by decide +kernel) rfl rfl (Nat.le_of_ble_eq_true rfl) dX7_readSeal_56 (fun H locs hP hD hS => ?_)
  have hP : va_P g vwCl (txW ta (updZ d_8.2 9 ((10 * d_6.1) + d_8.1)) S τ) H := hP
  have hD : va_D A (txW ta (updZ d_8.2 9 ((10 * d_6.1) + d_8.1)) S τ) := hD
  have ht_9 : TI (updZ d_8.2 9 ((10 * d_6.1) + d_8.1)) := TI_u htd_8 (by omega)
  refine lv_aload_n hx hb dX7_readSeal_59 rfl (lv_at hl 0 rfl) ?_
  refine lv_aload_n hx hb dX7_readSeal_60 rfl (lv_at hl 0 rfl) ?_
  refine lv_iconst (v := iI 3) hx hb dX7_readSeal_61 (by decide) ?_
  refine rw_V (As := [Value.int (iI 3)]) (rest := [Value.ref (ta 0)]) ⟨hx, hb, hml, hown, hts⟩ (c_X7_readRising l g τ ta (updZ d_8.2 9 ((10 * d_6.1) + d_8.1)) S hS2 ht_9 3 (by omega)) gX7_readSeal_X7_readRising cd_X7_readRising rfl rfl ⟨rfl, rfl⟩ ⟨Nat.le_of_ble_eq_true rfl, Nat.le_of_ble_eq_true rfl⟩ hK hP hD hS [0, 1] (rfl) (by decide) 0 rfl rfl rfl rfl hl rfl (Nat.le_of_ble_eq_true rfl) dX7_readSeal_62 ⟨Nat.le_of_ble_eq_true rfl, Nat.le_of_ble_eq_true rfl⟩ (fun v w h => by rw [h.2]; exact f_tx _ _ _ _ _) (fun v w1 H locs hZ hP hD hS => ?_)
  obtain ⟨rfl, rfl⟩ := hZ
  rw [b_tx] at hP hD
  generalize hqd_10 : tRis (updZ d_8.2 9 ((10 * d_6.1) + d_8.1)) S (Int.toNat 3 + 1) = d_10 at hP hD ⊢
  have htd_10 : TI (d_10.2) := hqd_10 ▸ (tRis_ok ht_9 (Int.toNat 3 + 1)).1
  have hrd_10 := (hqd_10 ▸ (tRis_ok ht_9 (Int.toNat 3 + 1)).2 : 0 ≤ d_10.1 ∧ d_10.1 < 2 ^ 4)
  refine tl_some ?_
  refine va_put (D := g) (ci := 7) (v := Value.int (iI d_10.1)) (ty := .int) (C := RX7) (T := TX7) (N := 12) hx hb hts in_X7_readSeal_X7 tyX7 tyX7_ok nmX7 hown hK.1 hP hD hS 0 (rfl) rfl 10 (by decide) (hts _ (List.mem_of_getElem? (i := 5) rfl) : (Cond.fieldLink RX7 69 "CordSeals$Text" "set" "I").before _ s = true) (fun _ h9 => h9) rfl (by decide +kernel) rfl rfl (Nat.le_of_ble_eq_true rfl) dX7_readSeal_65 (fun H locs hP hD hS => ?_)
  have hP : va_P g vwCl (txW ta (updZ d_10.2 10 d_10.1) S τ) H := hP
  have hD : va_D A (txW ta (updZ d_10.2 10 d_10.1) S τ) := hD
  have ht_11 : TI (updZ d_10.2 10 d_10.1) := TI_u htd_10 (by omega)
  exact rw_vret hx hb hr hlocks hP hS (⟨rfl, by subst hqd_2; subst hqd_4; subst hqd_6; subst hqd_8; subst hqd_10; rfl⟩) dX7_readSeal_68

theorem cd_X7_readHanging : cd yX7_readHanging 0 := by decide +kernel
theorem in_X7_readHanging_X7 : ∀ w ∈ wsX70, w ∈ wsX7_readHanging := by decide +kernel
set_option maxHeartbeats 1000000 in
set_option maxRecDepth 100000 in
theorem c_X7_readHanging (l : Launch) (g : va_G) (τ : Nat → ClassId) (ta : Nat → Nat) (X S : Nat → Int) (hS2 : SB S) (hT : TI X) (hl1 : X 2 < X 0)  : Met l yX7_readHanging wsX7_readHanging { frames := 2, cells := 0, slots := 0, locals := 44 } (va_Pc [Value.ref (ta 0)] (rwW g τ (txW ta X S τ))) (rwQ g (fun v w => v = none ∧ w = txW ta (tHang X S) S τ) (inW (txW ta X S τ))) 0 0 (inW (txW ta X S τ)) := by
  refine rwMet (cc := cX7_readHanging) (maxL := 3) (ret := none) (lv := [(0, Value.ref (ta 0))]) (by decide) rfl (Nat.le_of_ble_eq_true rfl) rfl ?_
  intro p e s m below meth c hx hb hr hml hts hown hlocks A H hP hD hS hK ls hl
  refine lv_aload_n hx hb dX7_readHanging_0 rfl (lv_at hl 0 rfl) ?_
  refine lv_dup hx hb dX7_readHanging_1 rfl ?_
  refine va_get (D := g) (ci := 7) (v := Value.int (iI (X 2))) (C := RX7) (T := TX7) (N := 12) hx hb hts in_X7_readHanging_X7 hown hK.1 hP 0 (rfl) rfl 2 (by decide) (hts _ (List.mem_of_getElem? (i := 1) rfl) : (Cond.fieldLink RX7 30 "CordSeals$Text" "at" "I").before _ s = true) (fun _ h9 => h9) rfl dX7_readHanging_2 ?_
  refine lv_iconst (v := iI 1) hx hb dX7_readHanging_5 (by decide) ?_
  refine zi_add hx hb dX7_readHanging_6 ?_
  refine va_put (D := g) (ci := 7) (v := Value.int (iI ((X 2) + 1))) (ty := .int) (C := RX7) (T := TX7) (N := 12) hx hb hts in_X7_readHanging_X7 tyX7 tyX7_ok nmX7 hown hK.1 hP hD hS 0 (rfl) rfl 2 (by decide) (hts _ (List.mem_of_getElem? (i := 1) rfl) : (Cond.fieldLink RX7 30 "CordSeals$Text" "at" "I").before _ s = true) (fun _ h9 => h9) rfl (by decide +kernel) rfl rfl (Nat.le_of_ble_eq_true rfl) dX7_readHanging_7 (fun H locs hP hD hS => ?_)
  have hP : va_P g vwCl (txW ta (updZ X 2 ((X 2) + 1)) S τ) H := hP
  have hD : va_D A (txW ta (updZ X 2 ((X 2) + 1)) S τ) := hD
  have ht_1 : TI (updZ X 2 ((X 2) + 1)) := TI_a hT (by omega)
  refine lv_aload_n hx hb dX7_readHanging_10 rfl (lv_at hl 0 rfl) ?_
  refine lv_iconst (v := iI 0) hx hb dX7_readHanging_11 (by decide) ?_
  refine lv_iconst (v := iI 2) hx hb dX7_readHanging_12 (by decide) ?_
  refine rw_V (As := [Value.int (iI 0), Value.int (iI 2)]) (rest := []) ⟨hx, hb, hml, hown, hts⟩ (c_X7_readDigit l g τ ta (updZ X 2 ((X 2) + 1)) S hS2 ht_1 0 2 (by omega) (by omega)) gX7_readHanging_X7_readDigit cd_X7_readDigit rfl rfl ⟨rfl, rfl⟩ ⟨Nat.le_of_ble_eq_true rfl, Nat.le_of_ble_eq_true rfl⟩ hK hP hD hS [0, 1] (rfl) (by decide) 0 rfl rfl rfl rfl hl rfl (Nat.le_of_ble_eq_true rfl) dX7_readHanging_13 ⟨Nat.le_of_ble_eq_true rfl, Nat.le_of_ble_eq_true rfl⟩ (fun v w h => by rw [h.2]; exact f_tx _ _ _ _ _) (fun v w1 H locs hZ hP hD hS => ?_)
  obtain ⟨rfl, rfl⟩ := hZ
  rw [b_tx] at hP hD
  generalize hqd_2 : tDig (updZ X 2 ((X 2) + 1)) S 0 2 = d_2 at hP hD ⊢
  have htd_2 : TI (d_2.2) := hqd_2 ▸ tDig_ok ht_1 0 2
  have hrd_2 := (hqd_2 ▸ tDig_r (X := updZ X 2 ((X 2) + 1)) (S := S) (a := 0) (b := 2) (by omega) (by omega) : 0 ≤ d_2.1 ∧ d_2.1 ≤ 2)
  refine tl_some ?_
  refine lv_istore_n (lv' := [(1, Value.int (iI d_2.1)), (0, Value.ref (ta 0))]) hx hb dX7_readHanging_16 rfl hl (by decide) rfl (fun ls hl => ?_)
  refine jn (F0 m 28 ls (Value.int (iI (if d_2.1 = 2 then 3 else 9)) :: [])) ?_ (fun K => ?_)
  · skip
    refine lv_istore_n (lv' := [(2, Value.int (iI (if d_2.1 = 2 then 3 else 9))), (1, Value.int (iI d_2.1)), (0, Value.ref (ta 0))]) hx hb dX7_readHanging_28 rfl hl (by decide) rfl (fun ls hl => ?_)
    refine lv_aload_n hx hb dX7_readHanging_29 rfl (lv_at hl 2 rfl) ?_
    refine lv_bipush (v := iI 10) hx hb dX7_readHanging_30 (by decide) ?_
    refine lv_iload_n hx hb dX7_readHanging_32 rfl (lv_at hl 1 rfl) ?_
    refine zi_mul hx hb dX7_readHanging_33 ?_
    refine lv_aload_n hx hb dX7_readHanging_34 rfl (lv_at hl 2 rfl) ?_
    refine lv_iconst (v := iI 0) hx hb dX7_readHanging_35 (by decide) ?_
    refine lv_iload_n hx hb dX7_readHanging_36 rfl (lv_at hl 0 rfl) ?_
    refine rw_V (As := [Value.int (iI 0), Value.int (iI (if d_2.1 = 2 then 3 else 9))]) (rest := [Value.int (iI (10 * d_2.1)), Value.ref (ta 0)]) ⟨hx, hb, hml, hown, hts⟩ (c_X7_readDigit l g τ ta d_2.2 S hS2 htd_2 0 (if d_2.1 = 2 then 3 else 9) (by omega) (by omega)) gX7_readHanging_X7_readDigit cd_X7_readDigit rfl rfl ⟨rfl, rfl⟩ ⟨Nat.le_of_ble_eq_true rfl, Nat.le_of_ble_eq_true rfl⟩ hK hP hD hS [0, 1] (rfl) (by decide) 0 rfl rfl rfl rfl hl rfl (Nat.le_of_ble_eq_true rfl) dX7_readHanging_37 ⟨Nat.le_of_ble_eq_true rfl, Nat.le_of_ble_eq_true rfl⟩ (fun v w h => by rw [h.2]; exact f_tx _ _ _ _ _) (fun v w1 H locs hZ hP hD hS => ?_)
    obtain ⟨rfl, rfl⟩ := hZ
    rw [b_tx] at hP hD
    generalize hqd_3 : tDig d_2.2 S 0 (if d_2.1 = 2 then 3 else 9) = d_3 at hP hD ⊢
    have htd_3 : TI (d_3.2) := hqd_3 ▸ tDig_ok htd_2 0 (if d_2.1 = 2 then 3 else 9)
    have hrd_3 := (hqd_3 ▸ tDig_r (X := d_2.2) (S := S) (a := 0) (b := if d_2.1 = 2 then 3 else 9) (by omega) (by omega) : 0 ≤ d_3.1 ∧ d_3.1 ≤ (if d_2.1 = 2 then 3 else 9))
    refine tl_some ?_
    refine zi_add hx hb dX7_readHanging_40 ?_
    refine va_put (D := g) (ci := 7) (v := Value.int (iI ((10 * d_2.1) + d_3.1))) (ty := .int) (C := RX7) (T := TX7) (N := 12) hx hb hts in_X7_readHanging_X7 tyX7 tyX7_ok nmX7 hown hK.1 hP hD hS 0 (rfl) rfl 5 (by decide) (hts _ (List.mem_of_getElem? (i := 2) rfl) : (Cond.fieldLink RX7 76 "CordSeals$Text" "number" "I").before _ s = true) (fun _ h9 => h9) rfl (by decide +kernel) rfl rfl (Nat.le_of_ble_eq_true rfl) dX7_readHanging_41 (fun H locs hP hD hS => ?_)
    have hP : va_P g vwCl (txW ta (updZ d_3.2 5 ((10 * d_2.1) + d_3.1)) S τ) H := hP
    have hD : va_D A (txW ta (updZ d_3.2 5 ((10 * d_2.1) + d_3.1)) S τ) := hD
    have ht_4 : TI (updZ d_3.2 5 ((10 * d_2.1) + d_3.1)) := TI_u htd_3 (by omega)
    refine lv_aload_n hx hb dX7_readHanging_44 rfl (lv_at hl 2 rfl) ?_
    refine lv_aload_n hx hb dX7_readHanging_45 rfl (lv_at hl 2 rfl) ?_
    refine lv_iconst (v := iI 0) hx hb dX7_readHanging_46 (by decide) ?_
    refine lv_iconst (v := iI 5) hx hb dX7_readHanging_47 (by decide) ?_
    refine rw_V (As := [Value.int (iI 0), Value.int (iI 5)]) (rest := [Value.ref (ta 0)]) ⟨hx, hb, hml, hown, hts⟩ (c_X7_readDigit l g τ ta (updZ d_3.2 5 ((10 * d_2.1) + d_3.1)) S hS2 ht_4 0 5 (by omega) (by omega)) gX7_readHanging_X7_readDigit cd_X7_readDigit rfl rfl ⟨rfl, rfl⟩ ⟨Nat.le_of_ble_eq_true rfl, Nat.le_of_ble_eq_true rfl⟩ hK hP hD hS [0, 1] (rfl) (by decide) 0 rfl rfl rfl rfl hl rfl (Nat.le_of_ble_eq_true rfl) dX7_readHanging_48 ⟨Nat.le_of_ble_eq_true rfl, Nat.le_of_ble_eq_true rfl⟩ (fun v w h => by rw [h.2]; exact f_tx _ _ _ _ _) (fun v w1 H locs hZ hP hD hS => ?_)
    obtain ⟨rfl, rfl⟩ := hZ
    rw [b_tx] at hP hD
    generalize hqd_5 : tDig (updZ d_3.2 5 ((10 * d_2.1) + d_3.1)) S 0 5 = d_5 at hP hD ⊢
    have htd_5 : TI (d_5.2) := hqd_5 ▸ tDig_ok ht_4 0 5
    have hrd_5 := (hqd_5 ▸ tDig_r (X := updZ d_3.2 5 ((10 * d_2.1) + d_3.1)) (S := S) (a := 0) (b := 5) (by omega) (by omega) : 0 ≤ d_5.1 ∧ d_5.1 ≤ 5)
    refine tl_some ?_
    refine va_put (D := g) (ci := 7) (v := Value.int (iI d_5.1)) (ty := .int) (C := RX7) (T := TX7) (N := 12) hx hb hts in_X7_readHanging_X7 tyX7 tyX7_ok nmX7 hown hK.1 hP hD hS 0 (rfl) rfl 11 (by decide) (hts _ (List.mem_of_getElem? (i := 3) rfl) : (Cond.fieldLink RX7 91 "CordSeals$Text" "hangsOn" "I").before _ s = true) (fun _ h9 => h9) rfl (by decide +kernel) rfl rfl (Nat.le_of_ble_eq_true rfl) dX7_readHanging_51 (fun H locs hP hD hS => ?_)
    have hP : va_P g vwCl (txW ta (updZ d_5.2 11 d_5.1) S τ) H := hP
    have hD : va_D A (txW ta (updZ d_5.2 11 d_5.1) S τ) := hD
    have ht_6 : TI (updZ d_5.2 11 d_5.1) := TI_u htd_5 (by omega)
    exact rw_vret hx hb hr hlocks hP hS (⟨rfl, by subst hqd_2; subst hqd_3; subst hqd_5; rfl⟩) dX7_readHanging_54
  · skip
    refine lv_iload_n hx hb dX7_readHanging_17 rfl (lv_at hl 0 rfl) ?_
    refine lv_iconst (v := iI 2) hx hb dX7_readHanging_18 (by decide) ?_
    refine zi_icmp_ne (tgt := 26) hx hb ⟨by omega, by omega⟩ ⟨by decide, by decide⟩ dX7_readHanging_19 (by decide) (fun c_7 => ?_) (fun c_7 => ?_)
    · have _ := c_7
      refine lv_bipush (v := iI 9) hx hb dX7_readHanging_26 (by decide) ?_
      exact cv_i (congrArg iI (Eq.symm (show (if d_2.1 = 2 then 3 else 9) = 9 from by simp [c_7]))) K
    · have _ := c_7
      refine lv_iconst (v := iI 3) hx hb dX7_readHanging_22 (by decide) ?_
      refine lv_goto (tgt := 28) hx hb dX7_readHanging_23 (by decide) ?_
      exact cv_i (congrArg iI (Eq.symm (show (if d_2.1 = 2 then 3 else 9) = 3 from by simp [c_7]))) K
