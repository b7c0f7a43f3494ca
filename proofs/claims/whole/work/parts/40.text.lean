/-! the text: X k is field k, S the signs -/
def txW (ta : Nat → Nat) (X : Nat → Int) (S : Nat → Int) (τ : Nat → ClassId) : va_W := [(ta 0, .inr (7, [.int (iI (X 0)), .ref (ta 1), .int (iI (X 2)), .int (iI (X 3)), .int (iI (X 4)), .int (iI (X 5)), .int (iI (X 6)), .int (iI (X 7)), .int (iI (X 8)), .int (iI (X 9)), .int (iI (X 10)), .int (iI (X 11))])), (ta 1, .inl (τ 2, 120, .inl (fun j => iI (S j))))]
abbrev TI (X : Nat → Int) : Prop := 0 ≤ X 2 ∧ X 2 ≤ X 0 ∧ X 0 ≤ 120 ∧ 0 ≤ X 3 ∧ X 3 ≤ 1
abbrev TL (X : Nat → Int) : Prop := 0 ≤ X 0 ∧ X 0 ≤ 120 ∧ 0 ≤ X 3 ∧ X 3 ≤ 1
def SB (S : Nat → Int) : Prop := ∀ j, 0 ≤ S j ∧ S j ≤ 255
theorem TI_u {X : Nat → Int} (h : TI X) {k : Nat} (hk : 4 ≤ k) {z : Int} : TI (updZ X k z) := by
  have e : ∀ j, j < 4 → updZ X k z j = X j := fun j hj => by unfold updZ; rw [if_neg (by omega)]
  unfold TI
  rw [e 0 (by omega), e 2 (by omega), e 3 (by omega)]
  exact h
theorem TI_f {X : Nat → Int} (h : TI X) {z : Int} (hz : 0 ≤ z ∧ z ≤ 1) : TI (updZ X 3 z) := ⟨h.1, h.2.1, h.2.2.1, hz.1, hz.2⟩
theorem TI_a {X : Nat → Int} (h : TI X) (hl : X 2 < X 0) : TI (updZ X 2 (X 2 + 1)) := ⟨by show 0 ≤ X 2 + 1; have := h.1; omega, by show X 2 + 1 ≤ X 0; omega, h.2.2.1, h.2.2.2.1, h.2.2.2.2⟩
def tAt (X S : Nat → Int) : Int := S (X 2).toNat
def tIs (X S : Nat → Int) (a b : Int) : Bool := decide (X 2 < X 0) && (decide (48 + a ≤ tAt X S) && decide (tAt X S ≤ 48 + b))
def tDig (X S : Nat → Int) (a b : Int) : Int × (Nat → Int) := if X 3 = 0 ∧ tIs X S a b = true then (tAt X S - 48, updZ X 2 (X 2 + 1)) else (0, updZ X 3 1)
theorem tIs_y {X S : Nat → Int} {a b : Int} (h : tIs X S a b = true) : X 2 < X 0 ∧ 48 + a ≤ tAt X S ∧ tAt X S ≤ 48 + b := by
  unfold tIs at h
  simpa using h
theorem tDig_ok {X S : Nat → Int} (h : TI X) (a b : Int) : TI (tDig X S a b).2 := by
  unfold tDig
  split
  · rename_i q; exact TI_a h (tIs_y q.2).1
  · exact TI_f h (by omega)
theorem tDig_r {X S : Nat → Int} {a b : Int} (ha : 0 ≤ a) (hab : a ≤ b) : 0 ≤ (tDig X S a b).1 ∧ (tDig X S a b).1 ≤ b := by
  unfold tDig
  split
  · rename_i q
    have := tIs_y q.2
    show 0 ≤ tAt X S - 48 ∧ tAt X S - 48 ≤ b
    omega
  · show 0 ≤ (0 : Int) ∧ (0 : Int) ≤ b
    omega
def tSgn (X S : Nat → Int) (z : Int) : Nat → Int := if X 3 = 0 ∧ X 2 < X 0 ∧ tAt X S = z then updZ X 2 (X 2 + 1) else updZ X 3 1
theorem tSgn_ok {X S : Nat → Int} (h : TI X) (z : Int) : TI (tSgn X S z) := by
  unfold tSgn
  split
  · rename_i q; exact TI_a h q.2.1
  · exact TI_f h (by omega)
def tYr (X S : Nat → Int) : Nat → Int × (Nat → Int)
  | 0 => tDig X S 1 1
  | i + 1 => (10 * (tYr X S i).1 + (tDig (tYr X S i).2 S 0 9).1, (tDig (tYr X S i).2 S 0 9).2)
theorem tYr_ok {X S : Nat → Int} (h : TI X) : ∀ i, TI (tYr X S i).2
  | 0 => tDig_ok h 1 1
  | i + 1 => tDig_ok (tYr_ok h i) 0 9
def tCol (X S : Nat → Int) : Int × (Nat → Int) := if X 3 = 0 ∧ X 2 < X 0 ∧ tAt X S = 46 then (-1, updZ X 2 (X 2 + 1)) else tDig X S 0 7
theorem tCol_ok {X S : Nat → Int} (h : TI X) : TI (tCol X S).2 := by
  unfold tCol
  split
  · rename_i q; exact TI_a h q.2.1
  · exact tDig_ok h 0 7
def tRis (X S : Nat → Int) : Nat → Int × (Nat → Int)
  | 0 => (0, X)
  | d + 1 => if (tRis X S d).2 3 = 0 ∧ tIs (tRis X S d).2 S d d = true then (zor (tRis X S d).1 ((2 : Int) ^ d), updZ (tRis X S d).2 2 ((tRis X S d).2 2 + 1)) else tRis X S d
theorem tRis_ok {X S : Nat → Int} (h : TI X) : ∀ i, TI (tRis X S i).2 ∧ 0 ≤ (tRis X S i).1 ∧ (tRis X S i).1 < 2 ^ i
  | 0 => ⟨h, by show (0 : Int) ≤ 0 ∧ (0 : Int) < 2 ^ 0; decide⟩
  | i + 1 => by
    obtain ⟨h1, h2, h3⟩ := tRis_ok h i
    have e : (2 : Int) ^ i = ((2 ^ i : Nat) : Int) := by push_cast; rfl
    have e2 : (2 : Int) ^ (i + 1) = ((2 ^ (i + 1) : Nat) : Int) := by push_cast; rfl
    have hlt : (2 : Nat) ^ i < 2 ^ (i + 1) := Nat.pow_lt_pow_right (by decide) (by omega)
    rw [tRis]
    split
    · rename_i q
      refine ⟨TI_a h1 (tIs_y q.2).1, Int.natCast_nonneg _, ?_⟩
      show zor _ _ < _
      unfold zor
      rw [e2]
      refine Int.ofNat_lt.mpr (Nat.or_lt_two_pow ?_ ?_)
      · rw [e] at h3; omega
      · rw [e]; exact hlt
    · refine ⟨h1, h2, Int.lt_trans h3 ?_⟩
      rw [e, e2]
      exact Int.ofNat_lt.mpr hlt
def tReign (X S : Nat → Int) : Nat → Int :=
  if (tRis (updZ (tYr (updZ X 2 (X 2 + 1)) S 3).2 6 (tYr (updZ X 2 (X 2 + 1)) S 3).1) S 8).1 = 0 then updZ (updZ (tRis (updZ (tYr (updZ X 2 (X 2 + 1)) S 3).2 6 (tYr (updZ X 2 (X 2 + 1)) S 3).1) S 8).2 10 (tRis (updZ (tYr (updZ X 2 (X 2 + 1)) S 3).2 6 (tYr (updZ X 2 (X 2 + 1)) S 3).1) S 8).1) 3 1 else updZ (tRis (updZ (tYr (updZ X 2 (X 2 + 1)) S 3).2 6 (tYr (updZ X 2 (X 2 + 1)) S 3).1) S 8).2 10 (tRis (updZ (tYr (updZ X 2 (X 2 + 1)) S 3).2 6 (tYr (updZ X 2 (X 2 + 1)) S 3).1) S 8).1
theorem f_tx (ta : Nat → Nat) (X X2 S : Nat → Int) (τ : Nat → ClassId) : (txW ta X2 S τ).map Prod.fst = (txW ta X S τ).map Prod.fst := rfl
theorem b_tx {ta : Nat → Nat} {X X2 S : Nat → Int} {τ : Nat → ClassId} : va_repl (txW ta X S τ) ([0, 1].zip (txW ta X2 S τ)) = txW ta X2 S τ := rfl

theorem cd_X7_isDigit : cd yX7_isDigit 2 := by decide +kernel
theorem in_X7_isDigit_X7 : ∀ w ∈ wsX70, w ∈ wsX7_isDigit := by decide +kernel
set_option maxHeartbeats 1000000 in
set_option maxRecDepth 100000 in
theorem c_X7_isDigit (l : Launch) (g : va_G) (τ : Nat → ClassId) (ta : Nat → Nat) (X S : Nat → Int) (hS2 : SB S) (hT : TI X) (a b : Int) (ha : 0 ≤ a ∧ a ≤ 9) (hb9 : a ≤ b ∧ b ≤ 9)  : Met l yX7_isDigit wsX7_isDigit { frames := 0, cells := 0, slots := 0, locals := 0 } (va_Pc [Value.ref (ta 0), Value.int (iI a), Value.int (iI b)] (roW g τ (txW ta X S τ))) (roQ (some (Value.int (iI (zB (tIs X S a b)))))) 0 0 nof := by
  refine roMet (cc := cX7_isDigit) (maxL := 3) (ret := (some .boolean)) (lv := [(0, Value.ref (ta 0)), (1, Value.int (iI a)), (2, Value.int (iI b))]) (by decide) rfl (Nat.le_of_ble_eq_true rfl) rfl ?_
  intro p e s m below meth c hx hb hr hml hts hown hlocks hP hK ls hl
  refine lv_aload_n hx hb dX7_isDigit_0 rfl (lv_at hl 0 rfl) ?_
  refine va_get (D := g) (ci := 7) (v := Value.int (iI (X 2))) (C := RX7) (T := TX7) (N := 12) hx hb hts in_X7_isDigit_X7 hown hK.1 hP 0 (rfl) rfl 2 (by decide) (hts _ (List.mem_of_getElem? (i := 1) rfl) : (Cond.fieldLink RX7 30 "CordSeals$Text" "at" "I").before _ s = true) (fun _ h9 => h9) rfl dX7_isDigit_1 ?_
  refine lv_aload_n hx hb dX7_isDigit_4 rfl (lv_at hl 0 rfl) ?_
  refine va_get (D := g) (ci := 7) (v := Value.int (iI (X 0))) (C := RX7) (T := TX7) (N := 12) hx hb hts in_X7_isDigit_X7 hown hK.1 hP 0 (rfl) rfl 0 (by decide) (hts _ (List.mem_of_getElem? (i := 2) rfl) : (Cond.fieldLink RX7 15 "CordSeals$Text" "length" "I").before _ s = true) (fun _ h9 => h9) rfl dX7_isDigit_5 ?_
  refine zi_icmp_ge (tgt := 47) hx hb ⟨by omega, by omega⟩ ⟨by omega, by omega⟩ dX7_isDigit_8 (by decide) (fun c_1 => ?_) (fun c_1 => ?_)
  · have _ := c_1
    refine lv_iconst (v := iI 0) hx hb dX7_isDigit_47 (by decide) ?_
    exact zo_zret hx hb hr hlocks (by unfold tIs; have hta : tAt X S = S (X 2).toNat := rfl; first | (rw [Bool.and_eq_true_iff.mpr ⟨decide_eq_true (by omega), Bool.and_eq_true_iff.mpr ⟨decide_eq_true (by omega), decide_eq_true (by omega)⟩⟩]; rfl) | (rw [Bool.and_eq_false_iff.mpr (by first | exact Or.inl (decide_eq_false (by omega)) | (right; rw [Bool.and_eq_false_iff]; first | exact Or.inl (decide_eq_false (by omega)) | exact Or.inr (decide_eq_false (by omega))))]; rfl)) dX7_isDigit_48
  · have _ := c_1
    refine lv_aload_n hx hb dX7_isDigit_11 rfl (lv_at hl 0 rfl) ?_
    refine va_get (D := g) (ci := 7) (v := Value.ref (ta 1)) (C := RX7) (T := TX7) (N := 12) hx hb hts in_X7_isDigit_X7 hown hK.1 hP 0 (rfl) rfl 1 (by decide) (hts _ (List.mem_of_getElem? (i := 3) rfl) : (Cond.fieldLink RX7 9 "CordSeals$Text" "signs" "[C").before _ s = true) (fun _ h9 => h9) rfl dX7_isDigit_12 ?_
    refine lv_aload_n hx hb dX7_isDigit_15 rfl (lv_at hl 0 rfl) ?_
    refine va_get (D := g) (ci := 7) (v := Value.int (iI (X 2))) (C := RX7) (T := TX7) (N := 12) hx hb hts in_X7_isDigit_X7 hown hK.1 hP 0 (rfl) rfl 2 (by decide) (hts _ (List.mem_of_getElem? (i := 1) rfl) : (Cond.fieldLink RX7 30 "CordSeals$Text" "at" "I").before _ s = true) (fun _ h9 => h9) rfl dX7_isDigit_16 ?_
    have hsb := hS2 (X 2).toNat
    refine zc_ald hx hb hK hP 1 (f := S) (rfl) ((X 2).toNat) (by omega) (by omega) (by decide) dX7_isDigit_19 ?_
    refine lv_bipush (v := iI 48) hx hb dX7_isDigit_20 (by decide) ?_
    refine lv_iload_n hx hb dX7_isDigit_22 rfl (lv_at hl 1 rfl) ?_
    refine zi_add hx hb dX7_isDigit_23 ?_
    refine zi_icmp_lt (tgt := 47) hx hb ⟨by omega, by omega⟩ ⟨by omega, by omega⟩ dX7_isDigit_24 (by decide) (fun c_2 => ?_) (fun c_2 => ?_)
    · have _ := c_2
      refine lv_iconst (v := iI 0) hx hb dX7_isDigit_47 (by decide) ?_
      exact zo_zret hx hb hr hlocks (by unfold tIs; have hta : tAt X S = S (X 2).toNat := rfl; first | (rw [Bool.and_eq_true_iff.mpr ⟨decide_eq_true (by omega), Bool.and_eq_true_iff.mpr ⟨decide_eq_true (by omega), decide_eq_true (by omega)⟩⟩]; rfl) | (rw [Bool.and_eq_false_iff.mpr (by first | exact Or.inl (decide_eq_false (by omega)) | (right; rw [Bool.and_eq_false_iff]; first | exact Or.inl (decide_eq_false (by omega)) | exact Or.inr (decide_eq_false (by omega))))]; rfl)) dX7_isDigit_48
    · have _ := c_2
      refine lv_aload_n hx hb dX7_isDigit_27 rfl (lv_at hl 0 rfl) ?_
      refine va_get (D := g) (ci := 7) (v := Value.ref (ta 1)) (C := RX7) (T := TX7) (N := 12) hx hb hts in_X7_isDigit_X7 hown hK.1 hP 0 (rfl) rfl 1 (by decide) (hts _ (List.mem_of_getElem? (i := 3) rfl) : (Cond.fieldLink RX7 9 "CordSeals$Text" "signs" "[C").before _ s = true) (fun _ h9 => h9) rfl dX7_isDigit_28 ?_
      refine lv_aload_n hx hb dX7_isDigit_31 rfl (lv_at hl 0 rfl) ?_
      refine va_get (D := g) (ci := 7) (v := Value.int (iI (X 2))) (C := RX7) (T := TX7) (N := 12) hx hb hts in_X7_isDigit_X7 hown hK.1 hP 0 (rfl) rfl 2 (by decide) (hts _ (List.mem_of_getElem? (i := 1) rfl) : (Cond.fieldLink RX7 30 "CordSeals$Text" "at" "I").before _ s = true) (fun _ h9 => h9) rfl dX7_isDigit_32 ?_
      have hta : tAt X S = S (X 2).toNat := rfl
      refine zc_ald hx hb hK hP 1 (f := S) (rfl) ((X 2).toNat) (by omega) (by omega) (by decide) dX7_isDigit_35 ?_
      refine lv_bipush (v := iI 48) hx hb dX7_isDigit_36 (by decide) ?_
      refine lv_iload_n hx hb dX7_isDigit_38 rfl (lv_at hl 2 rfl) ?_
      refine zi_add hx hb dX7_isDigit_39 ?_
      refine zi_icmp_gt (tgt := 47) hx hb ⟨by omega, by omega⟩ ⟨by omega, by omega⟩ dX7_isDigit_40 (by decide) (fun c_3 => ?_) (fun c_3 => ?_)
      · have _ := c_3
        refine lv_iconst (v := iI 0) hx hb dX7_isDigit_47 (by decide) ?_
        exact zo_zret hx hb hr hlocks (by unfold tIs; have hta : tAt X S = S (X 2).toNat := rfl; first | (rw [Bool.and_eq_true_iff.mpr ⟨decide_eq_true (by omega), Bool.and_eq_true_iff.mpr ⟨decide_eq_true (by omega), decide_eq_true (by omega)⟩⟩]; rfl) | (rw [Bool.and_eq_false_iff.mpr (by first | exact Or.inl (decide_eq_false (by omega)) | (right; rw [Bool.and_eq_false_iff]; first | exact Or.inl (decide_eq_false (by omega)) | exact Or.inr (decide_eq_false (by omega))))]; rfl)) dX7_isDigit_48
      · have _ := c_3
        refine lv_iconst (v := iI 1) hx hb dX7_isDigit_43 (by decide) ?_
        refine lv_goto (tgt := 48) hx hb dX7_isDigit_44 (by decide) ?_
        exact zo_zret hx hb hr hlocks (by unfold tIs; have hta : tAt X S = S (X 2).toNat := rfl; first | (rw [Bool.and_eq_true_iff.mpr ⟨decide_eq_true (by omega), Bool.and_eq_true_iff.mpr ⟨decide_eq_true (by omega), decide_eq_true (by omega)⟩⟩]; rfl) | (rw [Bool.and_eq_false_iff.mpr (by first | exact Or.inl (decide_eq_false (by omega)) | (right; rw [Bool.and_eq_false_iff]; first | exact Or.inl (decide_eq_false (by omega)) | exact Or.inr (decide_eq_false (by omega))))]; rfl)) dX7_isDigit_48

theorem cd_X7_readDigit : cd yX7_readDigit 2 := by decide +kernel
theorem in_X7_readDigit_X7 : ∀ w ∈ wsX70, w ∈ wsX7_readDigit := by decide +kernel
set_option maxHeartbeats 1000000 in
set_option maxRecDepth 100000 in
theorem c_X7_readDigit (l : Launch) (g : va_G) (τ : Nat → ClassId) (ta : Nat → Nat) (X S : Nat → Int) (hS2 : SB S) (hT : TI X) (a b : Int) (ha : 0 ≤ a ∧ a ≤ 9) (hb9 : a ≤ b ∧ b ≤ 9)  : Met l yX7_readDigit wsX7_readDigit { frames := 1, cells := 0, slots := 0, locals := 22 } (va_Pc [Value.ref (ta 0), Value.int (iI a), Value.int (iI b)] (rwW g τ (txW ta X S τ))) (rwQ g (fun v w => v = some (Value.int (iI (tDig X S a b).1)) ∧ w = txW ta (tDig X S a b).2 S τ) (inW (txW ta X S τ))) 0 0 (inW (txW ta X S τ)) := by
  refine rwMet (cc := cX7_readDigit) (maxL := 3) (ret := (some .int)) (lv := [(0, Value.ref (ta 0)), (1, Value.int (iI a)), (2, Value.int (iI b))]) (by decide) rfl (Nat.le_of_ble_eq_true rfl) rfl ?_
  intro p e s m below meth c hx hb hr hml hts hown hlocks A H hP hD hS hK ls hl
  refine lv_aload_n hx hb dX7_readDigit_0 rfl (lv_at hl 0 rfl) ?_
  refine va_get (D := g) (ci := 7) (v := Value.int (iI (X 3))) (C := RX7) (T := TX7) (N := 12) hx hb hts in_X7_readDigit_X7 hown hK.1 hP 0 (rfl) rfl 3 (by decide) (hts _ (List.mem_of_getElem? (i := 1) rfl) : (Cond.fieldLink RX7 26 "CordSeals$Text" "failed" "Z").before _ s = true) (fun _ h9 => h9) rfl dX7_readDigit_1 ?_
  refine zi_if_ne (tgt := 16) hx hb ⟨by omega, by omega⟩ dX7_readDigit_4 (by decide) (fun c_1 => ?_) (fun c_1 => ?_)
  · have _ := c_1
    refine lv_aload_n hx hb dX7_readDigit_16 rfl (lv_at hl 0 rfl) ?_
    refine lv_iconst (v := iI 1) hx hb dX7_readDigit_17 (by decide) ?_
    refine va_put (D := g) (ci := 7) (v := Value.int (iI 1)) (ty := .boolean) (C := RX7) (T := TX7) (N := 12) hx hb hts in_X7_readDigit_X7 tyX7 tyX7_ok nmX7 hown hK.1 hP hD hS 0 (rfl) rfl 3 (by decide) (hts _ (List.mem_of_getElem? (i := 1) rfl) : (Cond.fieldLink RX7 26 "CordSeals$Text" "failed" "Z").before _ s = true) (fun _ h9 => h9) rfl (by decide +kernel) (by first | rfl | decide | exact nar_b2 _) (by first | rfl | decide | exact fit_b2 _) (Nat.le_of_ble_eq_true rfl) dX7_readDigit_18 (fun H locs hP hD hS => ?_)
    have hP : va_P g vwCl (txW ta (updZ X 3 1) S τ) H := hP
    have hD : va_D A (txW ta (updZ X 3 1) S τ) := hD
    have ht_2 : TI (updZ X 3 1) := TI_f hT (by first | exact ⟨by omega, by omega⟩)
    refine lv_iconst (v := iI 0) hx hb dX7_readDigit_21 (by decide) ?_
    exact rw_iret hx hb hr hlocks hP hS (by rw [tDig, if_neg (by first | (intro hq; omega) | (intro hq; exact absurd hq.2 (by rw [show tIs X S a b = false from by assumption]; decide)))]; exact ⟨rfl, rfl⟩) dX7_readDigit_22
  · have _ := c_1
    refine lv_aload_n hx hb dX7_readDigit_7 rfl (lv_at hl 0 rfl) ?_
    refine lv_iload_n hx hb dX7_readDigit_8 rfl (lv_at hl 1 rfl) ?_
    refine lv_iload_n hx hb dX7_readDigit_9 rfl (lv_at hl 2 rfl) ?_
    refine ro_V (As := [Value.int (iI a), Value.int (iI b)]) (rest := []) (v := some (Value.int (iI (zB (tIs X S a b))))) ⟨hx, hb, hml, hown, hts⟩ (c_X7_isDigit l g τ ta X S hS2 hT a b (by omega) (by omega)) gX7_readDigit_X7_isDigit cd_X7_isDigit rfl rfl ⟨rfl, rfl⟩ ⟨Nat.le_of_ble_eq_true rfl, Nat.le_of_ble_eq_true rfl⟩ hK hP 0 rfl rfl rfl rfl hl rfl (Nat.le_of_ble_eq_true rfl) dX7_readDigit_10 ⟨Nat.le_of_ble_eq_true rfl, Nat.le_of_ble_eq_true rfl⟩ ?_
    refine tl_some ?_
    refine zb_if_ne (tgt := 23) hx hb dX7_readDigit_13 (by decide) (fun c_3 => ?_) (fun c_3 => ?_)
    · have _ := c_3
      have hy := tIs_y c_3
      refine lv_aload_n hx hb dX7_readDigit_23 rfl (lv_at hl 0 rfl) ?_
      refine lv_dup hx hb dX7_readDigit_24 rfl ?_
      refine va_get (D := g) (ci := 7) (v := Value.int (iI (X 2))) (C := RX7) (T := TX7) (N := 12) hx hb hts in_X7_readDigit_X7 hown hK.1 hP 0 (rfl) rfl 2 (by decide) (hts _ (List.mem_of_getElem? (i := 2) rfl) : (Cond.fieldLink RX7 30 "CordSeals$Text" "at" "I").before _ s = true) (fun _ h9 => h9) rfl dX7_readDigit_25 ?_
      refine lv_iconst (v := iI 1) hx hb dX7_readDigit_28 (by decide) ?_
      refine zi_add hx hb dX7_readDigit_29 ?_
      refine va_put (D := g) (ci := 7) (v := Value.int (iI ((X 2) + 1))) (ty := .int) (C := RX7) (T := TX7) (N := 12) hx hb hts in_X7_readDigit_X7 tyX7 tyX7_ok nmX7 hown hK.1 hP hD hS 0 (rfl) rfl 2 (by decide) (hts _ (List.mem_of_getElem? (i := 2) rfl) : (Cond.fieldLink RX7 30 "CordSeals$Text" "at" "I").before _ s = true) (fun _ h9 => h9) rfl (by decide +kernel) rfl rfl (Nat.le_of_ble_eq_true rfl) dX7_readDigit_30 (fun H locs hP hD hS => ?_)
      have hP : va_P g vwCl (txW ta (updZ X 2 ((X 2) + 1)) S τ) H := hP
      have hD : va_D A (txW ta (updZ X 2 ((X 2) + 1)) S τ) := hD
      have ht_4 : TI (updZ X 2 ((X 2) + 1)) := TI_a hT (by omega)
      refine lv_aload_n hx hb dX7_readDigit_33 rfl (lv_at hl 0 rfl) ?_
      refine va_get (D := g) (ci := 7) (v := Value.ref (ta 1)) (C := RX7) (T := TX7) (N := 12) hx hb hts in_X7_readDigit_X7 hown hK.1 hP 0 (rfl) rfl 1 (by decide) (hts _ (List.mem_of_getElem? (i := 3) rfl) : (Cond.fieldLink RX7 9 "CordSeals$Text" "signs" "[C").before _ s = true) (fun _ h9 => h9) rfl dX7_readDigit_34 ?_
      refine lv_aload_n hx hb dX7_readDigit_37 rfl (lv_at hl 0 rfl) ?_
      refine va_get (D := g) (ci := 7) (v := Value.int (iI ((X 2) + 1))) (C := RX7) (T := TX7) (N := 12) hx hb hts in_X7_readDigit_X7 hown hK.1 hP 0 (rfl) rfl 2 (by decide) (hts _ (List.mem_of_getElem? (i := 2) rfl) : (Cond.fieldLink RX7 30 "CordSeals$Text" "at" "I").before _ s = true) (fun _ h9 => h9) rfl dX7_readDigit_38 ?_
      refine lv_iconst (v := iI 1) hx hb dX7_readDigit_41 (by decide) ?_
      refine zi_sub hx hb dX7_readDigit_42 ?_
      refine cv_i (y := iI (X 2)) (congrArg iI (by omega)) ?_
      refine zc_ald hx hb hK hP 1 (f := S) (rfl) ((X 2).toNat) (by omega) (by omega) (by decide) dX7_readDigit_43 ?_
      refine lv_bipush (v := iI 48) hx hb dX7_readDigit_44 (by decide) ?_
      refine zi_sub hx hb dX7_readDigit_46 ?_
      exact rw_iret hx hb hr hlocks hP hS (by rw [tDig, if_pos ⟨by omega, by assumption⟩]; exact ⟨rfl, rfl⟩) dX7_readDigit_47
    · have _ := c_3
      refine lv_aload_n hx hb dX7_readDigit_16 rfl (lv_at hl 0 rfl) ?_
      refine lv_iconst (v := iI 1) hx hb dX7_readDigit_17 (by decide) ?_
      refine va_put (D := g) (ci := 7) (v := Value.int (iI 1)) (ty := .boolean) (C := RX7) (T := TX7) (N := 12) hx hb hts in_X7_readDigit_X7 tyX7 tyX7_ok nmX7 hown hK.1 hP hD hS 0 (rfl) rfl 3 (by decide) (hts _ (List.mem_of_getElem? (i := 1) rfl) : (Cond.fieldLink RX7 26 "CordSeals$Text" "failed" "Z").before _ s = true) (fun _ h9 => h9) rfl (by decide +kernel) (by first | rfl | decide | exact nar_b2 _) (by first | rfl | decide | exact fit_b2 _) (Nat.le_of_ble_eq_true rfl) dX7_readDigit_18 (fun H locs hP hD hS => ?_)
      have hP : va_P g vwCl (txW ta (updZ X 3 1) S τ) H := hP
      have hD : va_D A (txW ta (updZ X 3 1) S τ) := hD
      have ht_5 : TI (updZ X 3 1) := TI_f hT (by first | exact ⟨by omega, by omega⟩)
      refine lv_iconst (v := iI 0) hx hb dX7_readDigit_21 (by decide) ?_
      exact rw_iret hx hb hr hlocks hP hS (by rw [tDig, if_neg (by first | (intro hq; omega) | (intro hq; exact absurd hq.2 (by rw [show tIs X S a b = false from by assumption]; decide)))]; exact ⟨rfl, rfl⟩) dX7_readDigit_22

theorem cd_X7_readSign : cd yX7_readSign 1 := by decide +kernel
theorem in_X7_readSign_X7 : ∀ w ∈ wsX70, w ∈ wsX7_readSign := by decide +kernel
set_option maxHeartbeats 1000000 in
set_option maxRecDepth 100000 in
theorem c_X7_readSign (l : Launch) (g : va_G) (τ : Nat → ClassId) (ta : Nat → Nat) (X S : Nat → Int) (hS2 : SB S) (hT : TI X) (z : Int) (hz : 0 ≤ z ∧ z ≤ 255)  : Met l yX7_readSign wsX7_readSign { frames := 0, cells := 0, slots := 0, locals := 0 } (va_Pc [Value.ref (ta 0), Value.int (iI z)] (rwW g τ (txW ta X S τ))) (rwQ g (fun v w => v = none ∧ w = txW ta (tSgn X S z) S τ) (inW (txW ta X S τ))) 0 0 (inW (txW ta X S τ)) := by
  refine rwMet (cc := cX7_readSign) (maxL := 2) (ret := none) (lv := [(0, Value.ref (ta 0)), (1, Value.int (iI z))]) (by decide) rfl (Nat.le_of_ble_eq_true rfl) rfl ?_
  intro p e s m below meth c hx hb hr hml hts hown hlocks A H hP hD hS hK ls hl
  refine lv_aload_n hx hb dX7_readSign_0 rfl (lv_at hl 0 rfl) ?_
  refine va_get (D := g) (ci := 7) (v := Value.int (iI (X 3))) (C := RX7) (T := TX7) (N := 12) hx hb hts in_X7_readSign_X7 hown hK.1 hP 0 (rfl) rfl 3 (by decide) (hts _ (List.mem_of_getElem? (i := 1) rfl) : (Cond.fieldLink RX7 26 "CordSeals$Text" "failed" "Z").before _ s = true) (fun _ h9 => h9) rfl dX7_readSign_1 ?_
  refine zi_if_ne (tgt := 31) hx hb ⟨by omega, by omega⟩ dX7_readSign_4 (by decide) (fun c_1 => ?_) (fun c_1 => ?_)
  · have _ := c_1
    refine lv_aload_n hx hb dX7_readSign_31 rfl (lv_at hl 0 rfl) ?_
    refine lv_iconst (v := iI 1) hx hb dX7_readSign_32 (by decide) ?_
    refine va_put (D := g) (ci := 7) (v := Value.int (iI 1)) (ty := .boolean) (C := RX7) (T := TX7) (N := 12) hx hb hts in_X7_readSign_X7 tyX7 tyX7_ok nmX7 hown hK.1 hP hD hS 0 (rfl) rfl 3 (by decide) (hts _ (List.mem_of_getElem? (i := 1) rfl) : (Cond.fieldLink RX7 26 "CordSeals$Text" "failed" "Z").before _ s = true) (fun _ h9 => h9) rfl (by decide +kernel) (by first | rfl | decide | exact nar_b2 _) (by first | rfl | decide | exact fit_b2 _) (Nat.le_of_ble_eq_true rfl) dX7_readSign_33 (fun H locs hP hD hS => ?_)
    have hP : va_P g vwCl (txW ta (updZ X 3 1) S τ) H := hP
    have hD : va_D A (txW ta (updZ X 3 1) S τ) := hD
    have ht_2 : TI (updZ X 3 1) := TI_f hT (by first | exact ⟨by omega, by omega⟩)
    exact rw_vret hx hb hr hlocks hP hS (by rw [tSgn, if_neg (by intro hq; have hta : tAt X S = S (X 2).toNat := rfl; omega)]; exact ⟨rfl, rfl⟩) dX7_readSign_36
  · have _ := c_1
    refine lv_aload_n hx hb dX7_readSign_7 rfl (lv_at hl 0 rfl) ?_
    refine va_get (D := g) (ci := 7) (v := Value.int (iI (X 2))) (C := RX7) (T := TX7) (N := 12) hx hb hts in_X7_readSign_X7 hown hK.1 hP 0 (rfl) rfl 2 (by decide) (hts _ (List.mem_of_getElem? (i := 2) rfl) : (Cond.fieldLink RX7 30 "CordSeals$Text" "at" "I").before _ s = true) (fun _ h9 => h9) rfl dX7_readSign_8 ?_
    refine lv_aload_n hx hb dX7_readSign_11 rfl (lv_at hl 0 rfl) ?_
    refine va_get (D := g) (ci := 7) (v := Value.int (iI (X 0))) (C := RX7) (T := TX7) (N := 12) hx hb hts in_X7_readSign_X7 hown hK.1 hP 0 (rfl) rfl 0 (by decide) (hts _ (List.mem_of_getElem? (i := 3) rfl) : (Cond.fieldLink RX7 15 "CordSeals$Text" "length" "I").before _ s = true) (fun _ h9 => h9) rfl dX7_readSign_12 ?_
    refine zi_icmp_ge (tgt := 31) hx hb ⟨by omega, by omega⟩ ⟨by omega, by omega⟩ dX7_readSign_15 (by decide) (fun c_3 => ?_) (fun c_3 => ?_)
    · have _ := c_3
      refine lv_aload_n hx hb dX7_readSign_31 rfl (lv_at hl 0 rfl) ?_
      refine lv_iconst (v := iI 1) hx hb dX7_readSign_32 (by decide) ?_
      refine va_put (D := g) (ci := 7) (v := Value.int (iI 1)) (ty := .boolean) (C := RX7) (T := TX7) (N := 12) hx hb hts in_X7_readSign_X7 tyX7 tyX7_ok nmX7 hown hK.1 hP hD hS 0 (rfl) rfl 3 (by decide) (hts _ (List.mem_of_getElem? (i := 1) rfl) : (Cond.fieldLink RX7 26 "CordSeals$Text" "failed" "Z").before _ s = true) (fun _ h9 => h9) rfl (by decide +kernel) (by first | rfl | decide | exact nar_b2 _) (by first | rfl | decide | exact fit_b2 _) (Nat.le_of_ble_eq_true rfl) dX7_readSign_33 (fun H locs hP hD hS => ?_)
      have hP : va_P g vwCl (txW ta (updZ X 3 1) S τ) H := hP
      have hD : va_D A (txW ta (updZ X 3 1) S τ) := hD
      have ht_4 : TI (updZ X 3 1) := TI_f hT (by first | exact ⟨by omega, by omega⟩)
      exact rw_vret hx hb hr hlocks hP hS (by rw [tSgn, if_neg (by intro hq; have hta : tAt X S = S (X 2).toNat := rfl; omega)]; exact ⟨rfl, rfl⟩) dX7_readSign_36
    · have _ := c_3
      refine lv_aload_n hx hb dX7_readSign_18 rfl (lv_at hl 0 rfl) ?_
      refine va_get (D := g) (ci := 7) (v := Value.ref (ta 1)) (C := RX7) (T := TX7) (N := 12) hx hb hts in_X7_readSign_X7 hown hK.1 hP 0 (rfl) rfl 1 (by decide) (hts _ (List.mem_of_getElem? (i := 4) rfl) : (Cond.fieldLink RX7 9 "CordSeals$Text" "signs" "[C").before _ s = true) (fun _ h9 => h9) rfl dX7_readSign_19 ?_
      refine lv_aload_n hx hb dX7_readSign_22 rfl (lv_at hl 0 rfl) ?_
      refine va_get (D := g) (ci := 7) (v := Value.int (iI (X 2))) (C := RX7) (T := TX7) (N := 12) hx hb hts in_X7_readSign_X7 hown hK.1 hP 0 (rfl) rfl 2 (by decide) (hts _ (List.mem_of_getElem? (i := 2) rfl) : (Cond.fieldLink RX7 30 "CordSeals$Text" "at" "I").before _ s = true) (fun _ h9 => h9) rfl dX7_readSign_23 ?_
      refine zc_ald hx hb hK hP 1 (f := S) (rfl) ((X 2).toNat) (by omega) (by omega) (by decide) dX7_readSign_26 ?_
      have hsb := hS2 (X 2).toNat
      have hta : tAt X S = S (X 2).toNat := rfl
      refine lv_iload_n hx hb dX7_readSign_27 rfl (lv_at hl 1 rfl) ?_
      refine zi_icmp_eq (tgt := 37) hx hb ⟨by omega, by omega⟩ ⟨by omega, by omega⟩ dX7_readSign_28 (by decide) (fun c_5 => ?_) (fun c_5 => ?_)
      · have _ := c_5
        refine lv_aload_n hx hb dX7_readSign_37 rfl (lv_at hl 0 rfl) ?_
        refine lv_dup hx hb dX7_readSign_38 rfl ?_
        refine va_get (D := g) (ci := 7) (v := Value.int (iI (X 2))) (C := RX7) (T := TX7) (N := 12) hx hb hts in_X7_readSign_X7 hown hK.1 hP 0 (rfl) rfl 2 (by decide) (hts _ (List.mem_of_getElem? (i := 2) rfl) : (Cond.fieldLink RX7 30 "CordSeals$Text" "at" "I").before _ s = true) (fun _ h9 => h9) rfl dX7_readSign_39 ?_
        refine lv_iconst (v := iI 1) hx hb dX7_readSign_42 (by decide) ?_
        refine zi_add hx hb dX7_readSign_43 ?_
        refine va_put (D := g) (ci := 7) (v := Value.int (iI ((X 2) + 1))) (ty := .int) (C := RX7) (T := TX7) (N := 12) hx hb hts in_X7_readSign_X7 tyX7 tyX7_ok nmX7 hown hK.1 hP hD hS 0 (rfl) rfl 2 (by decide) (hts _ (List.mem_of_getElem? (i := 2) rfl) : (Cond.fieldLink RX7 30 "CordSeals$Text" "at" "I").before _ s = true) (fun _ h9 => h9) rfl (by decide +kernel) rfl rfl (Nat.le_of_ble_eq_true rfl) dX7_readSign_44 (fun H locs hP hD hS => ?_)
        have hP : va_P g vwCl (txW ta (updZ X 2 ((X 2) + 1)) S τ) H := hP
        have hD : va_D A (txW ta (updZ X 2 ((X 2) + 1)) S τ) := hD
        have ht_6 : TI (updZ X 2 ((X 2) + 1)) := TI_a hT (by omega)
        exact rw_vret hx hb hr hlocks hP hS (by rw [tSgn, if_pos ⟨by omega, by omega, by omega⟩]; exact ⟨rfl, rfl⟩) dX7_readSign_47
      · have _ := c_5
        refine lv_aload_n hx hb dX7_readSign_31 rfl (lv_at hl 0 rfl) ?_
        refine lv_iconst (v := iI 1) hx hb dX7_readSign_32 (by decide) ?_
        refine va_put (D := g) (ci := 7) (v := Value.int (iI 1)) (ty := .boolean) (C := RX7) (T := TX7) (N := 12) hx hb hts in_X7_readSign_X7 tyX7 tyX7_ok nmX7 hown hK.1 hP hD hS 0 (rfl) rfl 3 (by decide) (hts _ (List.mem_of_getElem? (i := 1) rfl) : (Cond.fieldLink RX7 26 "CordSeals$Text" "failed" "Z").before _ s = true) (fun _ h9 => h9) rfl (by decide +kernel) (by first | rfl | decide | exact nar_b2 _) (by first | rfl | decide | exact fit_b2 _) (Nat.le_of_ble_eq_true rfl) dX7_readSign_33 (fun H locs hP hD hS => ?_)
        have hP : va_P g vwCl (txW ta (updZ X 3 1) S τ) H := hP
        have hD : va_D A (txW ta (updZ X 3 1) S τ) := hD
        have ht_7 : TI (updZ X 3 1) := TI_f hT (by first | exact ⟨by omega, by omega⟩)
        exact rw_vret hx hb hr hlocks hP hS (by rw [tSgn, if_neg (by intro hq; have hta : tAt X S = S (X 2).toNat := rfl; omega)]; exact ⟨rfl, rfl⟩) dX7_readSign_36

theorem cd_X7_readColour : cd yX7_readColour 0 := by decide +kernel
theorem in_X7_readColour_X7 : ∀ w ∈ wsX70, w ∈ wsX7_readColour := by decide +kernel
set_option maxHeartbeats 1000000 in
set_option maxRecDepth 100000 in
theorem c_X7_readColour (l : Launch) (g : va_G) (τ : Nat → ClassId) (ta : Nat → Nat) (X S : Nat → Int) (hS2 : SB S) (hT : TI X)  : Met l yX7_readColour wsX7_readColour { frames := 2, cells := 0, slots := 0, locals := 44 } (va_Pc [Value.ref (ta 0)] (rwW g τ (txW ta X S τ))) (rwQ g (fun v w => v = some (Value.int (iI (tCol X S).1)) ∧ w = txW ta (tCol X S).2 S τ) (inW (txW ta X S τ))) 0 0 (inW (txW ta X S τ)) := by
  refine rwMet (cc := cX7_readColour) (maxL := 1) (ret := (some .int)) (lv := [(0, Value.ref (ta 0))]) (by decide) rfl (Nat.le_of_ble_eq_true rfl) rfl ?_
  intro p e s m below meth c hx hb hr hml hts hown hlocks A H hP hD hS hK ls hl
  refine lv_aload_n hx hb dX7_readColour_0 rfl (lv_at hl 0 rfl) ?_
  refine va_get (D := g) (ci := 7) (v := Value.int (iI (X 3))) (C := RX7) (T := TX7) (N := 12) hx hb hts in_X7_readColour_X7 hown hK.1 hP 0 (rfl) rfl 3 (by decide) (hts _ (List.mem_of_getElem? (i := 1) rfl) : (Cond.fieldLink RX7 26 "CordSeals$Text" "failed" "Z").before _ s = true) (fun _ h9 => h9) rfl dX7_readColour_1 ?_
  refine zi_if_ne (tgt := 44) hx hb ⟨by omega, by omega⟩ dX7_readColour_4 (by decide) (fun c_1 => ?_) (fun c_1 => ?_)
  · have _ := c_1
    refine lv_aload_n hx hb dX7_readColour_44 rfl (lv_at hl 0 rfl) ?_
    refine lv_iconst (v := iI 0) hx hb dX7_readColour_45 (by decide) ?_
    refine lv_bipush (v := iI 7) hx hb dX7_readColour_46 (by decide) ?_
    refine rw_V (As := [Value.int (iI 0), Value.int (iI 7)]) (rest := []) ⟨hx, hb, hml, hown, hts⟩ (c_X7_readDigit l g τ ta X S hS2 hT 0 7 (by omega) (by omega)) gX7_readColour_X7_readDigit cd_X7_readDigit rfl rfl ⟨rfl, rfl⟩ ⟨Nat.le_of_ble_eq_true rfl, Nat.le_of_ble_eq_true rfl⟩ hK hP hD hS [0, 1] (rfl) (by decide) 0 rfl rfl rfl rfl hl rfl (Nat.le_of_ble_eq_true rfl) dX7_readColour_48 ⟨Nat.le_of_ble_eq_true rfl, Nat.le_of_ble_eq_true rfl⟩ (fun v w h => by rw [h.2]; exact f_tx _ _ _ _ _) (fun v w1 H locs hZ hP hD hS => ?_)
    obtain ⟨rfl, rfl⟩ := hZ
    rw [b_tx] at hP hD
    generalize hqd_2 : tDig X S 0 7 = d_2 at hP hD ⊢
    have htd_2 : TI (d_2.2) := hqd_2 ▸ tDig_ok hT 0 7
    have hrd_2 := (hqd_2 ▸ tDig_r (X := X) (S := S) (a := 0) (b := 7) (by omega) (by omega) : 0 ≤ d_2.1 ∧ d_2.1 ≤ 7)
    refine tl_some ?_
    exact rw_iret hx hb hr hlocks hP hS (by rw [tCol, if_neg (by intro hq; have hta : tAt X S = S (X 2).toNat := rfl; omega)]; subst hqd_2; exact ⟨rfl, rfl⟩) dX7_readColour_51
  · have _ := c_1
    refine lv_aload_n hx hb dX7_readColour_7 rfl (lv_at hl 0 rfl) ?_
    refine va_get (D := g) (ci := 7) (v := Value.int (iI (X 2))) (C := RX7) (T := TX7) (N := 12) hx hb hts in_X7_readColour_X7 hown hK.1 hP 0 (rfl) rfl 2 (by decide) (hts _ (List.mem_of_getElem? (i := 2) rfl) : (Cond.fieldLink RX7 30 "CordSeals$Text" "at" "I").before _ s = true) (fun _ h9 => h9) rfl dX7_readColour_8 ?_
    refine lv_aload_n hx hb dX7_readColour_11 rfl (lv_at hl 0 rfl) ?_
    refine va_get (D := g) (ci := 7) (v := Value.int (iI (X 0))) (C := RX7) (T := TX7) (N := 12) hx hb hts in_X7_readColour_X7 hown hK.1 hP 0 (rfl) rfl 0 (by decide) (hts _ (List.mem_of_getElem? (i := 3) rfl) : (Cond.fieldLink RX7 15 "CordSeals$Text" "length" "I").before _ s = true) (fun _ h9 => h9) rfl dX7_readColour_12 ?_
    refine zi_icmp_ge (tgt := 44) hx hb ⟨by omega, by omega⟩ ⟨by omega, by omega⟩ dX7_readColour_15 (by decide) (fun c_3 => ?_) (fun c_3 => ?_)
    · have _ := c_3
      refine lv_aload_n hx hb dX7_readColour_44 rfl (lv_at hl 0 rfl) ?_
      refine lv_iconst (v := iI 0) hx hb dX7_readColour_45 (by decide) ?_
      refine lv_bipush (v := iI 7) hx hb dX7_readColour_46 (by decide) ?_
      refine rw_V (As := [Value.int (iI 0), Value.int (iI 7)]) (rest := []) ⟨hx, hb, hml, hown, hts⟩ (c_X7_readDigit l g τ ta X S hS2 hT 0 7 (by omega) (by omega)) gX7_readColour_X7_readDigit cd_X7_readDigit rfl rfl ⟨rfl, rfl⟩ ⟨Nat.le_of_ble_eq_true rfl, Nat.le_of_ble_eq_true rfl⟩ hK hP hD hS [0, 1] (rfl) (by decide) 0 rfl rfl rfl rfl hl rfl (Nat.le_of_ble_eq_true rfl) dX7_readColour_48 ⟨Nat.le_of_ble_eq_true rfl, Nat.le_of_ble_eq_true rfl⟩ (fun v w h => by rw [h.2]; exact f_tx _ _ _ _ _) (fun v w1 H locs hZ hP hD hS => ?_)
      obtain ⟨rfl, rfl⟩ := hZ
      rw [b_tx] at hP hD
      generalize hqd_4 : tDig X S 0 7 = d_4 at hP hD ⊢
      have htd_4 : TI (d_4.2) := hqd_4 ▸ tDig_ok hT 0 7
      have hrd_4 := (hqd_4 ▸ tDig_r (X := X) (S := S) (a := 0) (b := 7) (by omega) (by omega) : 0 ≤ d_4.1 ∧ d_4.1 ≤ 7)
      refine tl_some ?_
      exact rw_iret hx hb hr hlocks hP hS (by rw [tCol, if_neg (by intro hq; have hta : tAt X S = S (X 2).toNat := rfl; omega)]; subst hqd_4; exact ⟨rfl, rfl⟩) dX7_readColour_51
    · have _ := c_3
      refine lv_aload_n hx hb dX7_readColour_18 rfl (lv_at hl 0 rfl) ?_
      refine va_get (D := g) (ci := 7) (v := Value.ref (ta 1)) (C := RX7) (T := TX7) (N := 12) hx hb hts in_X7_readColour_X7 hown hK.1 hP 0 (rfl) rfl 1 (by decide) (hts _ (List.mem_of_getElem? (i := 4) rfl) : (Cond.fieldLink RX7 9 "CordSeals$Text" "signs" "[C").before _ s = true) (fun _ h9 => h9) rfl dX7_readColour_19 ?_
      refine lv_aload_n hx hb dX7_readColour_22 rfl (lv_at hl 0 rfl) ?_
      refine va_get (D := g) (ci := 7) (v := Value.int (iI (X 2))) (C := RX7) (T := TX7) (N := 12) hx hb hts in_X7_readColour_X7 hown hK.1 hP 0 (rfl) rfl 2 (by decide) (hts _ (List.mem_of_getElem? (i := 2) rfl) : (Cond.fieldLink RX7 30 "CordSeals$Text" "at" "I").before _ s = true) (fun _ h9 => h9) rfl dX7_readColour_23 ?_
      refine zc_ald hx hb hK hP 1 (f := S) (rfl) ((X 2).toNat) (by omega) (by omega) (by decide) dX7_readColour_26 ?_
      have hsb := hS2 (X 2).toNat
      have hta : tAt X S = S (X 2).toNat := rfl
      refine lv_bipush (v := iI 46) hx hb dX7_readColour_27 (by decide) ?_
      refine zi_icmp_ne (tgt := 44) hx hb ⟨by omega, by omega⟩ ⟨by decide, by decide⟩ dX7_readColour_29 (by decide) (fun c_5 => ?_) (fun c_5 => ?_)
      · have _ := c_5
        refine lv_aload_n hx hb dX7_readColour_44 rfl (lv_at hl 0 rfl) ?_
        refine lv_iconst (v := iI 0) hx hb dX7_readColour_45 (by decide) ?_
        refine lv_bipush (v := iI 7) hx hb dX7_readColour_46 (by decide) ?_
        refine rw_V (As := [Value.int (iI 0), Value.int (iI 7)]) (rest := []) ⟨hx, hb, hml, hown, hts⟩ (c_X7_readDigit l g τ ta X S hS2 hT 0 7 (by omega) (by omega)) gX7_readColour_X7_readDigit cd_X7_readDigit rfl rfl ⟨rfl, rfl⟩ ⟨Nat.le_of_ble_eq_true rfl, Nat.le_of_ble_eq_true rfl⟩ hK hP hD hS [0, 1] (rfl) (by decide) 0 rfl rfl rfl rfl hl rfl (Nat.le_of_ble_eq_true rfl) dX7_readColour_48 ⟨Nat.le_of_ble_eq_true rfl, Nat.le_of_ble_eq_true rfl⟩ (fun v w h => by rw [h.2]; exact f_tx _ _ _ _ _) (fun v w1 H locs hZ hP hD hS => ?_)
        obtain ⟨rfl, rfl⟩ := hZ
        rw [b_tx] at hP hD
        generalize hqd_6 : tDig X S 0 7 = d_6 at hP hD ⊢
        have htd_6 : TI (d_6.2) := hqd_6 ▸ tDig_ok hT 0 7
        have hrd_6 := (hqd_6 ▸ tDig_r (X := X) (S := S) (a := 0) (b := 7) (by omega) (by omega) : 0 ≤ d_6.1 ∧ d_6.1 ≤ 7)
        refine tl_some ?_
        exact rw_iret hx hb hr hlocks hP hS (by rw [tCol, if_neg (by intro hq; have hta : tAt X S = S (X 2).toNat := rfl; omega)]; subst hqd_6; exact ⟨rfl, rfl⟩) dX7_readColour_51
      · have _ := c_5
        refine lv_aload_n hx hb dX7_readColour_32 rfl (lv_at hl 0 rfl) ?_
        refine lv_dup hx hb dX7_readColour_33 rfl ?_
        refine va_get (D := g) (ci := 7) (v := Value.int (iI (X 2))) (C := RX7) (T := TX7) (N := 12) hx hb hts in_X7_readColour_X7 hown hK.1 hP 0 (rfl) rfl 2 (by decide) (hts _ (List.mem_of_getElem? (i := 2) rfl) : (Cond.fieldLink RX7 30 "CordSeals$Text" "at" "I").before _ s = true) (fun _ h9 => h9) rfl dX7_readColour_34 ?_
        refine lv_iconst (v := iI 1) hx hb dX7_readColour_37 (by decide) ?_
        refine zi_add hx hb dX7_readColour_38 ?_
        refine va_put (D := g) (ci := 7) (v := Value.int (iI ((X 2) + 1))) (ty := .int) (C := RX7) (T := TX7) (N := 12) hx hb hts in_X7_readColour_X7 tyX7 tyX7_ok nmX7 hown hK.1 hP hD hS 0 (rfl) rfl 2 (by decide) (hts _ (List.mem_of_getElem? (i := 2) rfl) : (Cond.fieldLink RX7 30 "CordSeals$Text" "at" "I").before _ s = true) (fun _ h9 => h9) rfl (by decide +kernel) rfl rfl (Nat.le_of_ble_eq_true rfl) dX7_readColour_39 (fun H locs hP hD hS => ?_)
        have hP : va_P g vwCl (txW ta (updZ X 2 ((X 2) + 1)) S τ) H := hP
        have hD : va_D A (txW ta (updZ X 2 ((X 2) + 1)) S τ) := hD
        have ht_7 : TI (updZ X 2 ((X 2) + 1)) := TI_a hT (by omega)
        refine lv_iconst (v := iI (-1)) hx hb dX7_readColour_42 (by decide) ?_
        exact rw_iret hx hb hr hlocks hP hS (by rw [tCol, if_pos ⟨by omega, by omega, by omega⟩]; exact ⟨rfl, rfl⟩) dX7_readColour_43

theorem cd_X7_toStart : cd yX7_toStart 0 := by decide +kernel
theorem in_X7_toStart_X7 : ∀ w ∈ wsX70, w ∈ wsX7_toStart := by decide +kernel
set_option maxHeartbeats 1000000 in
set_option maxRecDepth 100000 in
theorem c_X7_toStart (l : Launch) (g : va_G) (τ : Nat → ClassId) (ta : Nat → Nat) (X S : Nat → Int) (hS2 : SB S) (hT : TL X)  : Met l yX7_toStart wsX7_toStart { frames := 0, cells := 0, slots := 0, locals := 0 } (va_Pc [Value.ref (ta 0)] (rwW g τ (txW ta X S τ))) (rwQ g (fun v w => v = none ∧ w = txW ta (updZ (updZ X 2 0) 3 0) S τ) (inW (txW ta X S τ))) 0 0 (inW (txW ta X S τ)) := by
  refine rwMet (cc := cX7_toStart) (maxL := 1) (ret := none) (lv := [(0, Value.ref (ta 0))]) (by decide) rfl (Nat.le_of_ble_eq_true rfl) rfl ?_
  intro p e s m below meth c hx hb hr hml hts hown hlocks A H hP hD hS hK ls hl
  refine lv_aload_n hx hb dX7_toStart_0 rfl (lv_at hl 0 rfl) ?_
  refine lv_iconst (v := iI 0) hx hb dX7_toStart_1 (by decide) ?_
  refine va_put (D := g) (ci := 7) (v := Value.int (iI 0)) (ty := .int) (C := RX7) (T := TX7) (N := 12) hx hb hts in_X7_toStart_X7 tyX7 tyX7_ok nmX7 hown hK.1 hP hD hS 0 (rfl) rfl 2 (by decide) (hts _ (List.mem_of_getElem? (i := 1) rfl) : (Cond.fieldLink RX7 30 "CordSeals$Text" "at" "I").before _ s = true) (fun _ h9 => h9) rfl (by decide +kernel) rfl rfl (Nat.le_of_ble_eq_true rfl) dX7_toStart_2 (fun H locs hP hD hS => ?_)
  have hP : va_P g vwCl (txW ta (updZ X 2 0) S τ) H := hP
  have hD : va_D A (txW ta (updZ X 2 0) S τ) := hD
  have ht_1 : TI (updZ X 2 0) := ⟨by show (0 : Int) ≤ 0; decide, by show 0 ≤ X 0; omega, hT.2.1, hT.2.2.1, hT.2.2.2⟩
  refine lv_aload_n hx hb dX7_toStart_5 rfl (lv_at hl 0 rfl) ?_
  refine lv_iconst (v := iI 0) hx hb dX7_toStart_6 (by decide) ?_
  refine va_put (D := g) (ci := 7) (v := Value.int (iI 0)) (ty := .boolean) (C := RX7) (T := TX7) (N := 12) hx hb hts in_X7_toStart_X7 tyX7 tyX7_ok nmX7 hown hK.1 hP hD hS 0 (rfl) rfl 3 (by decide) (hts _ (List.mem_of_getElem? (i := 2) rfl) : (Cond.fieldLink RX7 26 "CordSeals$Text" "failed" "Z").before _ s = true) (fun _ h9 => h9) rfl (by decide +kernel) (by first | rfl | decide | exact nar_b2 _) (by first | rfl | decide | exact fit_b2 _) (Nat.le_of_ble_eq_true rfl) dX7_toStart_7 (fun H locs hP hD hS => ?_)
  have hP : va_P g vwCl (txW ta (updZ (updZ X 2 0) 3 0) S τ) H := hP
  have hD : va_D A (txW ta (updZ (updZ X 2 0) 3 0) S τ) := hD
  have ht_2 : TI (updZ (updZ X 2 0) 3 0) := TI_f ht_1 (by first | exact ⟨by omega, by omega⟩)
  exact rw_vret hx hb hr hlocks hP hS (⟨rfl, rfl⟩) dX7_toStart_10

theorem cd_X7_readYear : cd yX7_readYear 0 := by decide +kernel
set_option maxHeartbeats 1000000 in
set_option maxRecDepth 100000 in
theorem c_X7_readYear (l : Launch) (g : va_G) (τ : Nat → ClassId) (ta : Nat → Nat) (X S : Nat → Int) (hS2 : SB S) (hT : TI X)  : Met l yX7_readYear wsX7_readYear { frames := 2, cells := 0, slots := 0, locals := 44 } (va_Pc [Value.ref (ta 0)] (rwW g τ (txW ta X S τ))) (rwQ g (fun v w => v = some (Value.int (iI (tYr X S 3).1)) ∧ w = txW ta (tYr X S 3).2 S τ) (inW (txW ta X S τ))) 0 0 (inW (txW ta X S τ)) := by
  refine rwMet (cc := cX7_readYear) (maxL := 3) (ret := (some .int)) (lv := [(0, Value.ref (ta 0))]) (by decide) rfl (Nat.le_of_ble_eq_true rfl) rfl ?_
  intro p e s m below meth c hx hb hr hml hts hown hlocks A H hP hD hS hK ls hl
  refine lv_aload_n hx hb dX7_readYear_0 rfl (lv_at hl 0 rfl) ?_
  refine lv_iconst (v := iI 1) hx hb dX7_readYear_1 (by decide) ?_
  refine lv_iconst (v := iI 1) hx hb dX7_readYear_2 (by decide) ?_
  refine rw_V (As := [Value.int (iI 1), Value.int (iI 1)]) (rest := []) ⟨hx, hb, hml, hown, hts⟩ (c_X7_readDigit l g τ ta X S hS2 hT 1 1 (by omega) (by omega)) gX7_readYear_X7_readDigit cd_X7_readDigit rfl rfl ⟨rfl, rfl⟩ ⟨Nat.le_of_ble_eq_true rfl, Nat.le_of_ble_eq_true rfl⟩ hK hP hD hS [0, 1] (rfl) (by decide) 0 rfl rfl rfl rfl hl rfl (Nat.le_of_ble_eq_true rfl) dX7_readYear_3 ⟨Nat.le_of_ble_eq_true rfl, Nat.le_of_ble_eq_true rfl⟩ (fun v w h => by rw [h.2]; exact f_tx _ _ _ _ _) (fun v w1 H locs hZ hP hD hS => ?_)
  obtain ⟨rfl, rfl⟩ := hZ
  rw [b_tx] at hP hD
  generalize hqd_1 : tDig X S 1 1 = d_1 at hP hD ⊢
  have htd_1 : TI (d_1.2) := hqd_1 ▸ tDig_ok hT 1 1
  have hrd_1 := (hqd_1 ▸ tDig_r (X := X) (S := S) (a := 1) (b := 1) (by omega) (by omega) : 0 ≤ d_1.1 ∧ d_1.1 ≤ 1)
  refine tl_some ?_
  refine lv_istore_n (lv' := [(1, Value.int (iI d_1.1)), (0, Value.ref (ta 0))]) hx hb dX7_readYear_6 rfl hl (by decide) rfl (fun ls hl => ?_)
  refine lv_iconst (v := iI 0) hx hb dX7_readYear_7 (by decide) ?_
  refine lv_istore_n (lv' := [(2, Value.int (iI 0)), (1, Value.int (iI d_1.1)), (0, Value.ref (ta 0))]) hx hb dX7_readYear_8 rfl hl (by decide) rfl (fun ls hl => ?_)
  have h0_2 : (tYr X S 0).1 = d_1.1 := by subst hqd_1; rfl
  have hP : va_P g vwCl (txW ta ((tYr X S 0).2) S τ) H := by first | exact hP | (subst hqd_1; exact hP)
  have hD : va_D A (txW ta ((tYr X S 0).2) S τ) := by first | exact hD | (subst hqd_1; exact hD)
  refine lp_upW (fun i => [(2, Value.int (iI (i : Int))), (1, Value.int (iI ((tYr X S i).1))), (0, Value.ref (ta 0))]) (fun i => txW ta ((tYr X S i).2) S τ) (fun i => True) (3) (0) (by omega) hP hD hS (by first | trivial | (intro j hj; omega)) (lv_eq (lv_sub hl [0, 1, 2] rfl) (by show [(2, Value.int (iI 0)), (1, Value.int (iI ((tYr X S 0).1))), (0, Value.ref (ta 0))] = [(2, Value.int (iI 0)), (1, Value.int (iI d_1.1)), (0, Value.ref (ta 0))]; rw [h0_2])) (fun i h0_i hi_i hI_i ih_9 H locs hP hD hS ls hl => ?_)
  have hy := tYr_ok (S := S) hT i
  refine lv_iload_n hx hb dX7_readYear_9 rfl (lv_at hl 0 rfl) ?_
  refine lv_iconst (v := iI 3) hx hb dX7_readYear_10 (by decide) ?_
  refine zi_icmp_ge (tgt := 33) hx hb ⟨by omega, by omega⟩ ⟨by decide, by decide⟩ dX7_readYear_11 (by decide) (fun c_3 => ?_) (fun c_3 => ?_)
  · have _ := c_3
    have h0_i : i = 3 := by omega
    refine lv_iload_n hx hb dX7_readYear_33 rfl (lv_at hl 1 rfl) ?_
    exact rw_iret hx hb hr hlocks hP hS (by rw [h0_i]; exact ⟨rfl, rfl⟩) dX7_readYear_34
  · have _ := c_3
    have hl_i : i < 3 := by omega
    refine lv_bipush (v := iI 10) hx hb dX7_readYear_14 (by decide) ?_
    refine lv_iload_n hx hb dX7_readYear_16 rfl (lv_at hl 1 rfl) ?_
    refine zi_mul hx hb dX7_readYear_17 ?_
    refine lv_aload_n hx hb dX7_readYear_18 rfl (lv_at hl 2 rfl) ?_
    refine lv_iconst (v := iI 0) hx hb dX7_readYear_19 (by decide) ?_
    refine lv_bipush (v := iI 9) hx hb dX7_readYear_20 (by decide) ?_
    refine rw_V (As := [Value.int (iI 0), Value.int (iI 9)]) (rest := [Value.int (iI (10 * ((tYr X S i).1)))]) ⟨hx, hb, hml, hown, hts⟩ (c_X7_readDigit l g τ ta ((tYr X S i).2) S hS2 hy 0 9 (by omega) (by omega)) gX7_readYear_X7_readDigit cd_X7_readDigit rfl rfl ⟨rfl, rfl⟩ ⟨Nat.le_of_ble_eq_true rfl, Nat.le_of_ble_eq_true rfl⟩ hK hP hD hS [0, 1] (rfl) (by decide) 0 rfl rfl rfl rfl hl rfl (Nat.le_of_ble_eq_true rfl) dX7_readYear_22 ⟨Nat.le_of_ble_eq_true rfl, Nat.le_of_ble_eq_true rfl⟩ (fun v w h => by rw [h.2]; exact f_tx _ _ _ _ _) (fun v w1 H locs hZ hP hD hS => ?_)
    obtain ⟨rfl, rfl⟩ := hZ
    rw [b_tx] at hP hD
    generalize hqd_4 : tDig ((tYr X S i).2) S 0 9 = d_4 at hP hD ⊢
    have htd_4 : TI (d_4.2) := hqd_4 ▸ tDig_ok hy 0 9
    have hrd_4 := (hqd_4 ▸ tDig_r (X := (tYr X S i).2) (S := S) (a := 0) (b := 9) (by omega) (by omega) : 0 ≤ d_4.1 ∧ d_4.1 ≤ 9)
    refine tl_some ?_
    refine zi_add hx hb dX7_readYear_25 ?_
    refine lv_istore_n (lv' := [(1, Value.int (iI ((10 * ((tYr X S i).1)) + d_4.1))), (2, Value.int (iI (i : Int))), (0, Value.ref (ta 0))]) hx hb dX7_readYear_26 rfl hl (by decide) rfl (fun ls hl => ?_)
    refine zi_inc (v := ((i + 1 : Nat) : Int)) (lv' := [(2, Value.int (iI ((i + 1 : Nat) : Int))), (1, Value.int (iI ((10 * ((tYr X S i).1)) + d_4.1))), (0, Value.ref (ta 0))]) hx hb dX7_readYear_27 hl (k := 1) rfl (by omega) (by decide) rfl (fun ls hl => ?_)
    refine lv_goto (tgt := 9) hx hb dX7_readYear_30 (by decide) ?_
    have hb_5 : (((i + 1) : Nat) : Int) = ((i + 1 : Nat) : Int) := by first | rfl | omega | (simp [c_3]; done)
    have hb_6 : (tYr X S (i + 1)).1 = (10 * ((tYr X S i).1)) + d_4.1 := by subst hqd_4; rfl
    have hw_7 : txW ta d_4.2 S τ = txW ta ((tYr X S (i + 1)).2) S τ := by subst hqd_4; rfl
    rw [hw_7] at hP hD
    exact ih_9 hl_i (trivial) _ _ _ hP hD hS (lv_eq (lv_sub hl [0, 1, 2] rfl) (by show [(2, Value.int (iI (((i + 1) : Nat) : Int))), (1, Value.int (iI ((tYr X S (i + 1)).1))), (0, Value.ref (ta 0))] = [(2, Value.int (iI ((i + 1 : Nat) : Int))), (1, Value.int (iI ((10 * ((tYr X S i).1)) + d_4.1))), (0, Value.ref (ta 0))]; rw [hb_5, hb_6]))

theorem cd_X7_readRising : cd yX7_readRising 1 := by decide +kernel
theorem in_X7_readRising_X7 : ∀ w ∈ wsX70, w ∈ wsX7_readRising := by decide +kernel
set_option maxHeartbeats 1000000 in
set_option maxRecDepth 100000 in
theorem c_X7_readRising (l : Launch) (g : va_G) (τ : Nat → ClassId) (ta : Nat → Nat) (X S : Nat → Int) (hS2 : SB S) (hT : TI X) (q : Int) (hq7 : 0 ≤ q ∧ q ≤ 7)  : Met l yX7_readRising wsX7_readRising { frames := 1, cells := 0, slots := 0, locals := 22 } (va_Pc [Value.ref (ta 0), Value.int (iI q)] (rwW g τ (txW ta X S τ))) (rwQ g (fun v w => v = some (Value.int (iI (tRis X S (q.toNat + 1)).1)) ∧ w = txW ta (tRis X S (q.toNat + 1)).2 S τ) (inW (txW ta X S τ))) 0 0 (inW (txW ta X S τ)) := by
  refine rwMet (cc := cX7_readRising) (maxL := 4) (ret := (some .int)) (lv := [(0, Value.ref (ta 0)), (1, Value.int (iI q))]) (by decide) rfl (Nat.le_of_ble_eq_true rfl) rfl ?_
  intro p e s m below meth c hx hb hr hml hts hown hlocks A H hP hD hS hK ls hl
  refine lv_iconst (v := iI 0) hx hb dX7_readRising_0 (by decide) ?_
  refine lv_istore_n (lv' := [(2, Value.int (iI 0)), (0, Value.ref (ta 0)), (1, Value.int (iI q))]) hx hb dX7_readRising_1 rfl hl (by decide) rfl (fun ls hl => ?_)
  refine lv_iconst (v := iI 0) hx hb dX7_readRising_2 (by decide) ?_
  refine lv_istore_n (lv' := [(3, Value.int (iI 0)), (2, Value.int (iI 0)), (0, Value.ref (ta 0)), (1, Value.int (iI q))]) hx hb dX7_readRising_3 rfl hl (by decide) rfl (fun ls hl => ?_)
  have h0_1 : (tRis X S 0).1 = 0 := by first | rfl | omega | (simp []; done)
  have hP : va_P g vwCl (txW ta ((tRis X S 0).2) S τ) H := by first | exact hP | (exact hP)
  have hD : va_D A (txW ta ((tRis X S 0).2) S τ) := by first | exact hD | (exact hD)
  refine lp_upW (fun i => [(3, Value.int (iI (i : Int))), (2, Value.int (iI ((tRis X S i).1))), (0, Value.ref (ta 0)), (1, Value.int (iI q))]) (fun i => txW ta ((tRis X S i).2) S τ) (fun i => True) (q.toNat + 1) (0) (by omega) hP hD hS (by first | trivial | (intro j hj; omega)) (lv_eq (lv_sub hl [0, 1, 2, 3] rfl) (by show [(3, Value.int (iI 0)), (2, Value.int (iI ((tRis X S 0).1))), (0, Value.ref (ta 0)), (1, Value.int (iI q))] = [(3, Value.int (iI 0)), (2, Value.int (iI 0)), (0, Value.ref (ta 0)), (1, Value.int (iI q))]; rw [h0_1])) (fun i h0_i hi_i hI_i ih_4 H locs hP hD hS ls hl => ?_)
  have hy := tRis_ok (S := S) hT i
  have hyp : (0 : Int) < (2 : Int) ^ i := Int.pow_pos (by decide)
  refine lv_iload_n hx hb dX7_readRising_4 rfl (lv_at hl 0 rfl) ?_
  refine lv_iload_n hx hb dX7_readRising_5 rfl (lv_at hl 3 rfl) ?_
  refine zi_icmp_gt (tgt := 47) hx hb ⟨by omega, by omega⟩ ⟨by omega, by omega⟩ dX7_readRising_6 (by decide) (fun c_2 => ?_) (fun c_2 => ?_)
  · have _ := c_2
    have h0_i : i = q.toNat + 1 := by omega
    refine lv_iload_n hx hb dX7_readRising_47 rfl (lv_at hl 1 rfl) ?_
    exact rw_iret hx hb hr hlocks hP hS (by rw [h0_i]; exact ⟨rfl, rfl⟩) dX7_readRising_48
  · have _ := c_2
    have hl_i : i < q.toNat + 1 := by omega
    refine lv_aload_n hx hb dX7_readRising_9 rfl (lv_at hl 2 rfl) ?_
    refine va_get (D := g) (ci := 7) (v := Value.int (iI (((tRis X S i).2) 3))) (C := RX7) (T := TX7) (N := 12) hx hb hts in_X7_readRising_X7 hown hK.1 hP 0 (rfl) rfl 3 (by decide) (hts _ (List.mem_of_getElem? (i := 1) rfl) : (Cond.fieldLink RX7 26 "CordSeals$Text" "failed" "Z").before _ s = true) (fun _ h9 => h9) rfl dX7_readRising_10 ?_
    refine zi_if_ne (tgt := 41) hx hb ⟨by omega, by omega⟩ dX7_readRising_13 (by decide) (fun c_3 => ?_) (fun c_3 => ?_)
    · have _ := c_3
      have hd : tRis X S (i + 1) = tRis X S i := by rw [tRis, if_neg (by intro hz; omega)]
      refine zi_inc (v := ((i + 1 : Nat) : Int)) (lv' := [(3, Value.int (iI ((i + 1 : Nat) : Int))), (2, Value.int (iI ((tRis X S i).1))), (0, Value.ref (ta 0)), (1, Value.int (iI q))]) hx hb dX7_readRising_41 hl (k := 0) rfl (by omega) (by decide) rfl (fun ls hl => ?_)
      refine lv_goto (tgt := 4) hx hb dX7_readRising_44 (by decide) ?_
      have hb_4 : (((i + 1) : Nat) : Int) = ((i + 1 : Nat) : Int) := by first | rfl | omega | (simp [c_2, c_3]; done)
      have hb_5 : (tRis X S (i + 1)).1 = (tRis X S i).1 := by rw [hd]
      have hw_6 : txW ta ((tRis X S i).2) S τ = txW ta ((tRis X S (i + 1)).2) S τ := by rw [hd]
      rw [hw_6] at hP hD
      exact ih_4 hl_i (trivial) _ _ _ hP hD hS (lv_eq (lv_sub hl [0, 1, 2, 3] rfl) (by show [(3, Value.int (iI (((i + 1) : Nat) : Int))), (2, Value.int (iI ((tRis X S (i + 1)).1))), (0, Value.ref (ta 0)), (1, Value.int (iI q))] = [(3, Value.int (iI ((i + 1 : Nat) : Int))), (2, Value.int (iI ((tRis X S i).1))), (0, Value.ref (ta 0)), (1, Value.int (iI q))]; rw [hb_4, hb_5]))
    · have _ := c_3
      refine lv_aload_n hx hb dX7_readRising_16 rfl (lv_at hl 2 rfl) ?_
      refine lv_iload_n hx hb dX7_readRising_17 rfl (lv_at hl 0 rfl) ?_
      refine lv_iload_n hx hb dX7_readRising_18 rfl (lv_at hl 0 rfl) ?_
      refine ro_V (As := [Value.int (iI (i : Int)), Value.int (iI (i : Int))]) (rest := []) (v := some (Value.int (iI (zB (tIs ((tRis X S i).2) S (i : Int) (i : Int)))))) ⟨hx, hb, hml, hown, hts⟩ (c_X7_isDigit l g τ ta ((tRis X S i).2) S hS2 hy.1 (i : Int) (i : Int) (by omega) (by omega)) gX7_readRising_X7_isDigit cd_X7_isDigit rfl rfl ⟨rfl, rfl⟩ ⟨Nat.le_of_ble_eq_true rfl, Nat.le_of_ble_eq_true rfl⟩ hK hP 0 rfl rfl rfl rfl hl rfl (Nat.le_of_ble_eq_true rfl) dX7_readRising_19 ⟨Nat.le_of_ble_eq_true rfl, Nat.le_of_ble_eq_true rfl⟩ ?_
      refine tl_some ?_
      refine zb_if_eq (tgt := 41) hx hb dX7_readRising_22 (by decide) (fun c_7 => ?_) (fun c_7 => ?_)
      · have _ := c_7
        have hd : tRis X S (i + 1) = tRis X S i := by rw [tRis, if_neg (by intro hz; exact absurd hz.2 (by rw [c_7]; decide))]
        refine zi_inc (v := ((i + 1 : Nat) : Int)) (lv' := [(3, Value.int (iI ((i + 1 : Nat) : Int))), (2, Value.int (iI ((tRis X S i).1))), (0, Value.ref (ta 0)), (1, Value.int (iI q))]) hx hb dX7_readRising_41 hl (k := 0) rfl (by omega) (by decide) rfl (fun ls hl => ?_)
        refine lv_goto (tgt := 4) hx hb dX7_readRising_44 (by decide) ?_
        have hb_8 : (((i + 1) : Nat) : Int) = ((i + 1 : Nat) : Int) := by first | rfl | omega | (simp [c_2, c_3, c_7]; done)
        have hb_9 : (tRis X S (i + 1)).1 = (tRis X S i).1 := by rw [hd]
        have hw_10 : txW ta ((tRis X S i).2) S τ = txW ta ((tRis X S (i + 1)).2) S τ := by rw [hd]
        rw [hw_10] at hP hD
        exact ih_4 hl_i (trivial) _ _ _ hP hD hS (lv_eq (lv_sub hl [0, 1, 2, 3] rfl) (by show [(3, Value.int (iI (((i + 1) : Nat) : Int))), (2, Value.int (iI ((tRis X S (i + 1)).1))), (0, Value.ref (ta 0)), (1, Value.int (iI q))] = [(3, Value.int (iI ((i + 1 : Nat) : Int))), (2, Value.int (iI ((tRis X S i).1))), (0, Value.ref (ta 0)), (1, Value.int (iI q))]; rw [hb_8, hb_9]))
      · have _ := c_7
        have hd : tRis X S (i + 1) = (zor (tRis X S i).1 ((2 : Int) ^ i), updZ (tRis X S i).2 2 ((tRis X S i).2 2 + 1)) := by rw [tRis, if_pos ⟨by omega, by assumption⟩]
        have hdg := tIs_y c_7
        refine lv_aload_n hx hb dX7_readRising_25 rfl (lv_at hl 2 rfl) ?_
        refine lv_dup hx hb dX7_readRising_26 rfl ?_
        refine va_get (D := g) (ci := 7) (v := Value.int (iI (((tRis X S i).2) 2))) (C := RX7) (T := TX7) (N := 12) hx hb hts in_X7_readRising_X7 hown hK.1 hP 0 (rfl) rfl 2 (by decide) (hts _ (List.mem_of_getElem? (i := 2) rfl) : (Cond.fieldLink RX7 30 "CordSeals$Text" "at" "I").before _ s = true) (fun _ h9 => h9) rfl dX7_readRising_27 ?_
        refine lv_iconst (v := iI 1) hx hb dX7_readRising_30 (by decide) ?_
        refine zi_add hx hb dX7_readRising_31 ?_
        refine va_put (D := g) (ci := 7) (v := Value.int (iI ((((tRis X S i).2) 2) + 1))) (ty := .int) (C := RX7) (T := TX7) (N := 12) hx hb hts in_X7_readRising_X7 tyX7 tyX7_ok nmX7 hown hK.1 hP hD hS 0 (rfl) rfl 2 (by decide) (hts _ (List.mem_of_getElem? (i := 2) rfl) : (Cond.fieldLink RX7 30 "CordSeals$Text" "at" "I").before _ s = true) (fun _ h9 => h9) rfl (by decide +kernel) rfl rfl (Nat.le_of_ble_eq_true rfl) dX7_readRising_32 (fun H locs hP hD hS => ?_)
        have hP : va_P g vwCl (txW ta (updZ ((tRis X S i).2) 2 ((((tRis X S i).2) 2) + 1)) S τ) H := hP
        have hD : va_D A (txW ta (updZ ((tRis X S i).2) 2 ((((tRis X S i).2) 2) + 1)) S τ) := hD
        have ht_11 : TI (updZ ((tRis X S i).2) 2 ((((tRis X S i).2) 2) + 1)) := TI_a hy.1 (by omega)
        refine lv_iload_n hx hb dX7_readRising_35 rfl (lv_at hl 1 rfl) ?_
        refine lv_iconst (v := iI 1) hx hb dX7_readRising_36 (by decide) ?_
        refine lv_iload_n hx hb dX7_readRising_37 rfl (lv_at hl 0 rfl) ?_
        refine zi_shl1 (i) (rfl) (by omega) hx hb dX7_readRising_38 ?_
        refine zi_or hx hb ⟨by omega, by omega⟩ dX7_readRising_39 ?_
        refine lv_istore_n (lv' := [(2, Value.int (iI (zor ((tRis X S i).1) ((2 : Int) ^ i)))), (3, Value.int (iI (i : Int))), (0, Value.ref (ta 0)), (1, Value.int (iI q))]) hx hb dX7_readRising_40 rfl hl (by decide) rfl (fun ls hl => ?_)
        refine zi_inc (v := ((i + 1 : Nat) : Int)) (lv' := [(3, Value.int (iI ((i + 1 : Nat) : Int))), (2, Value.int (iI (zor ((tRis X S i).1) ((2 : Int) ^ i)))), (0, Value.ref (ta 0)), (1, Value.int (iI q))]) hx hb dX7_readRising_41 hl (k := 1) rfl (by omega) (by decide) rfl (fun ls hl => ?_)
        refine lv_goto (tgt := 4) hx hb dX7_readRising_44 (by decide) ?_
        have hb_12 : (((i + 1) : Nat) : Int) = ((i + 1 : Nat) : Int) := by first | rfl | omega | (simp [c_2, c_3, c_7]; done)
        have hb_13 : (tRis X S (i + 1)).1 = zor ((tRis X S i).1) ((2 : Int) ^ i) := by rw [hd]
        have hw_14 : txW ta (updZ ((tRis X S i).2) 2 ((((tRis X S i).2) 2) + 1)) S τ = txW ta ((tRis X S (i + 1)).2) S τ := by rw [hd]
        rw [hw_14] at hP hD
        exact ih_4 hl_i (trivial) _ _ _ hP hD hS (lv_eq (lv_sub hl [0, 1, 2, 3] rfl) (by show [(3, Value.int (iI (((i + 1) : Nat) : Int))), (2, Value.int (iI ((tRis X S (i + 1)).1))), (0, Value.ref (ta 0)), (1, Value.int (iI q))] = [(3, Value.int (iI ((i + 1 : Nat) : Int))), (2, Value.int (iI (zor ((tRis X S i).1) ((2 : Int) ^ i)))), (0, Value.ref (ta 0)), (1, Value.int (iI q))]; rw [hb_12, hb_13]))
