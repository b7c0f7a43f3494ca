/-! the reference's reading: a its place, g whether it is good -/
def uH (S : Nat → Int) (n a : Int) : Int := if a < n then S a.toNat else -1
def uB (S : Nat → Int) (n a lo hi : Int) : Bool := decide (lo ≤ uH S n a - 48 ∧ uH S n a - 48 ≤ hi)
def uE (a g : Int) (b : Bool) : Int × Int := if ¬ g = 0 ∧ b = true then (a + 1, 1) else (a, 0)
def uD (S : Nat → Int) (n a g lo hi : Int) : Int × Int × Int := (if (uE a g (uB S n a lo hi)).2 = 0 then lo else uH S n a - 48, uE a g (uB S n a lo hi))
def uY (S : Nat → Int) (n a g : Int) : Nat → Int × Int × Int
  | 0 => uD S n a g 1 1
  | i + 1 => (10 * (uY S n a g i).1 + (uD S n (uY S n a g i).2.1 (uY S n a g i).2.2 0 9).1, (uD S n (uY S n a g i).2.1 (uY S n a g i).2.2 0 9).2)
def uSt (S : Nat → Int) (n hi : Int) (s : Int × Int × Int × Int) : Int × Int × Int × Int := (zor s.1 (if (uD S n s.2.2.1 s.2.2.2 s.2.1 hi).2.2 = 0 then 0 else (2 : Int) ^ (uD S n s.2.2.1 s.2.2.2 s.2.1 hi).1.toNat), (uD S n s.2.2.1 s.2.2.2 s.2.1 hi).1 + 1, (uD S n s.2.2.1 s.2.2.2 s.2.1 hi).2)
def uGo (S : Nat → Int) (n : Int) (s : Int × Int × Int × Int) : Bool := decide (¬ s.2.2.2 = 0 ∧ s.2.2.1 < n ∧ ¬ uH S n s.2.2.1 = 59)
def uAs (S : Nat → Int) (n hi : Int) (s0 : Int × Int × Int × Int) : Nat → Int × Int × Int × Int
  | 0 => s0
  | i + 1 => if uGo S n (uAs S n hi s0 i) = true then uSt S n hi (uAs S n hi s0 i) else uAs S n hi s0 i
def uEnd (S : Nat → Int) (n a g : Int) : Int := if ¬ g = 0 ∧ (a = n ∨ uH S n a = 59) then 1 else 0
abbrev PI (n a g : Int) : Prop := 0 ≤ a ∧ a ≤ n ∧ n ≤ 120 ∧ 0 ≤ g ∧ g ≤ 1
theorem uH_b {S : Nat → Int} (h : SB S) (n a : Int) : -1 ≤ uH S n a ∧ uH S n a ≤ 255 := by
  have := h a.toNat
  unfold uH
  split <;> omega
theorem uH_n {S : Nat → Int} {n a : Int} (h : ¬ uH S n a = -1) : a < n := by
  unfold uH at h
  split at h
  · assumption
  · exact absurd rfl h
theorem uE_ok {n a g : Int} (h : PI n a g) {b : Bool} (hb : b = true → a < n) : PI n (uE a g b).1 (uE a g b).2 := by
  obtain ⟨h1, h2, h3, h4, h5⟩ := h
  unfold uE
  split
  · rename_i q
    have := hb q.2
    exact ⟨by show 0 ≤ a + 1; omega, by show a + 1 ≤ n; omega, h3, by show (0 : Int) ≤ 1; omega, by show (1 : Int) ≤ 1; omega⟩
  · exact ⟨h1, h2, h3, by show (0 : Int) ≤ 0; omega, by show (0 : Int) ≤ 1; omega⟩
theorem uE_m (a g : Int) (b : Bool) : ((uE a g b).2 = 0 ∧ (uE a g b).1 = a) ∨ ((uE a g b).2 = 1 ∧ (uE a g b).1 = a + 1 ∧ ¬ g = 0 ∧ b = true) := by
  unfold uE
  split
  · rename_i q; exact Or.inr ⟨rfl, rfl, q.1, q.2⟩
  · exact Or.inl ⟨rfl, rfl⟩
theorem uB_n {S : Nat → Int} {n a lo hi : Int} (hlo : 0 ≤ lo) (h : uB S n a lo hi = true) : a < n := by
  have := of_decide_eq_true h
  exact uH_n (S := S) (by omega)
theorem uD_ok {S : Nat → Int} {n a g : Int} (h : PI n a g) {lo : Int} (hlo : 0 ≤ lo) (hi : Int) : PI n (uD S n a g lo hi).2.1 (uD S n a g lo hi).2.2 := uE_ok h (uB_n hlo)
theorem uD_m (S : Nat → Int) (n a g lo hi : Int) : ((uD S n a g lo hi).2.2 = 0 ∧ (uD S n a g lo hi).2.1 = a ∧ (uD S n a g lo hi).1 = lo) ∨ ((uD S n a g lo hi).2.2 = 1 ∧ (uD S n a g lo hi).2.1 = a + 1 ∧ ¬ g = 0 ∧ lo ≤ (uD S n a g lo hi).1 ∧ (uD S n a g lo hi).1 ≤ hi ∧ (uD S n a g lo hi).1 = uH S n a - 48) := by
  rcases uE_m a g (uB S n a lo hi) with ⟨h1, h2⟩ | ⟨h1, h2, h3, h4⟩
  · left
    refine ⟨h1, h2, ?_⟩
    show (if (uE a g (uB S n a lo hi)).2 = 0 then lo else uH S n a - 48) = lo
    rw [if_pos h1]
  · right
    have h5 := of_decide_eq_true h4
    have e : (uD S n a g lo hi).1 = uH S n a - 48 := by
      show (if (uE a g (uB S n a lo hi)).2 = 0 then lo else uH S n a - 48) = _
      rw [if_neg (by omega)]
    exact ⟨h1, h2, h3, by omega, by omega, e⟩
theorem uY_ok {S : Nat → Int} {n a g : Int} (h : PI n a g) : ∀ i, PI n (uY S n a g i).2.1 (uY S n a g i).2.2
  | 0 => uD_ok h (by decide) 1
  | i + 1 => uD_ok (uY_ok h i) (by decide) 9
theorem uY_b (S : Nat → Int) (n a g : Int) : ∀ i, 0 ≤ (uY S n a g i).1 ∧ (uY S n a g i).1 < 2 * 10 ^ i ∧ (¬ (uY S n a g i).2.2 = 0 → ¬ g = 0 ∧ 10 ^ i ≤ (uY S n a g i).1)
  | 0 => by
    have := uD_m S n a g 1 1
    show 0 ≤ (uD S n a g 1 1).1 ∧ (uD S n a g 1 1).1 < 2 * 10 ^ 0 ∧ (¬ (uD S n a g 1 1).2.2 = 0 → ¬ g = 0 ∧ 10 ^ 0 ≤ (uD S n a g 1 1).1)
    omega
  | i + 1 => by
    have h := uY_b S n a g i
    have := uD_m S n (uY S n a g i).2.1 (uY S n a g i).2.2 0 9
    have e : (10 : Int) ^ (i + 1) = 10 * 10 ^ i := by rw [Int.pow_succ, Int.mul_comm]
    show 0 ≤ 10 * (uY S n a g i).1 + (uD S n (uY S n a g i).2.1 (uY S n a g i).2.2 0 9).1 ∧ 10 * (uY S n a g i).1 + (uD S n (uY S n a g i).2.1 (uY S n a g i).2.2 0 9).1 < 2 * 10 ^ (i + 1) ∧ (¬ (uD S n (uY S n a g i).2.1 (uY S n a g i).2.2 0 9).2.2 = 0 → ¬ g = 0 ∧ 10 ^ (i + 1) ≤ 10 * (uY S n a g i).1 + (uD S n (uY S n a g i).2.1 (uY S n a g i).2.2 0 9).1)
    rw [e]
    generalize (10 : Int) ^ i = P at h ⊢
    omega
theorem uY_3 (S : Nat → Int) (n a g : Int) : 0 ≤ (uY S n a g 3).1 ∧ (uY S n a g 3).1 < 2000 ∧ (¬ (uY S n a g 3).2.2 = 0 → ¬ g = 0 ∧ 1000 ≤ (uY S n a g 3).1) := uY_b S n a g 3
/-- what holds in a loop over ascending digits -/
def uOK (n hi : Int) (s : Int × Int × Int × Int) : Prop := (0 ≤ s.1 ∧ s.1 < 256) ∧ 0 ≤ s.2.1 ∧ (¬ s.2.2.2 = 0 → s.2.1 ≤ hi + 1) ∧ s.2.1 ≤ hi + 2 ∧ PI n s.2.2.1 s.2.2.2
theorem pow_8 {k : Nat} (h : k < 8) : 0 < (2 : Int) ^ k ∧ (2 : Int) ^ k < 256 := by
  have : ∀ m, m < 8 → 0 < (2 : Int) ^ m ∧ (2 : Int) ^ m < 256 := by decide
  exact this k h
theorem uOK_i {n hi f a g : Int} (h1 : 0 ≤ f) (h2 : ¬ g = 0 → f ≤ hi + 1) (h3 : f ≤ hi + 2) (h4 : PI n a g) : uOK n hi (0, f, a, g) := ⟨⟨Int.le_refl 0, by show (0 : Int) < 256; decide⟩, h1, h2, h3, h4⟩
theorem uSt_ok {S : Nat → Int} {n hi : Int} (hh : 0 ≤ hi ∧ hi ≤ 7) {s : Int × Int × Int × Int} (h : uOK n hi s) (hg : ¬ s.2.2.2 = 0) : uOK n hi (uSt S n hi s) ∧ (n - (uSt S n hi s).2.2.1) + (uSt S n hi s).2.2.2 < (n - s.2.2.1) + s.2.2.2 := by
  obtain ⟨h1, h2, h3, h4, h5⟩ := h
  have hd := uD_m S n s.2.2.1 s.2.2.2 s.2.1 hi
  have hok := uD_ok (S := S) h5 h2 hi
  have h6 := h3 hg
  have hg5 := h5.2.2.2.2
  have hg4 := h5.2.2.2.1
  refine ⟨⟨?_, ?_, ?_, ?_, hok⟩, ?_⟩
  · show 0 ≤ zor s.1 _ ∧ zor s.1 _ < 256
    refine zor_b h1 ?_
    rcases hd with ⟨a1, a2, a3⟩ | ⟨a1, a2, a3, a4, a5, a6⟩
    · rw [if_pos a1]; omega
    · rw [if_neg (by omega)]
      have := pow_8 (k := (uD S n s.2.2.1 s.2.2.2 s.2.1 hi).1.toNat) (by omega)
      omega
  · show 0 ≤ (uD S n s.2.2.1 s.2.2.2 s.2.1 hi).1 + 1
    omega
  · show ¬ (uD S n s.2.2.1 s.2.2.2 s.2.1 hi).2.2 = 0 → (uD S n s.2.2.1 s.2.2.2 s.2.1 hi).1 + 1 ≤ hi + 1
    omega
  · show (uD S n s.2.2.1 s.2.2.2 s.2.1 hi).1 + 1 ≤ hi + 2
    omega
  · show (n - (uD S n s.2.2.1 s.2.2.2 s.2.1 hi).2.1) + (uD S n s.2.2.1 s.2.2.2 s.2.1 hi).2.2 < (n - s.2.2.1) + s.2.2.2
    omega
theorem uAs_ok {S : Nat → Int} {n hi : Int} (hh : 0 ≤ hi ∧ hi ≤ 7) {s0 : Int × Int × Int × Int} (h : uOK n hi s0) : ∀ i, uOK n hi (uAs S n hi s0 i)
  | 0 => h
  | i + 1 => by
    have ih := uAs_ok (S := S) hh h i
    unfold uAs
    split
    · rename_i q
      exact (uSt_ok hh ih (of_decide_eq_true q).1).1
    · exact ih
theorem uAs_stop {S : Nat → Int} {n hi : Int} {s0 : Int × Int × Int × Int} {i : Nat} (h : uGo S n (uAs S n hi s0 i) = false) : ∀ j, i ≤ j → uAs S n hi s0 j = uAs S n hi s0 i
  | 0, hj => by rw [show i = 0 from by omega]
  | j + 1, hj => by
    by_cases e : i = j + 1
    · rw [e]
    · have ih := uAs_stop h j (by omega)
      show (if uGo S n (uAs S n hi s0 j) = true then _ else uAs S n hi s0 j) = _
      rw [ih, h]
      rfl
theorem uAs_m {S : Nat → Int} {n hi : Int} {s0 : Int × Int × Int × Int} : ∀ i, ¬ (uAs S n hi s0 i).2.2.2 = 0 → ¬ s0.2.2.2 = 0
  | 0, h => h
  | i + 1, h => by
    unfold uAs at h
    split at h
    · rename_i q
      exact uAs_m i (of_decide_eq_true q).1
    · exact uAs_m i h
theorem nar_zB (b : Bool) : narrow .boolean (.int (iI (zB b))) = .int (iI (zB b)) := by cases b <;> rfl
theorem fit_zB (b : Bool) : fits .boolean (.int (iI (zB b))) = true := by cases b <;> rfl
theorem uEnd_m (S : Nat → Int) (n a g : Int) : (uEnd S n a g = 0) ∨ (uEnd S n a g = 1 ∧ ¬ g = 0) := by
  unfold uEnd
  split
  · rename_i q; exact Or.inr ⟨rfl, q.1⟩
  · exact Or.inl rfl

theorem cd_X10_here : cd yX10_here 0 := by decide +kernel
theorem in_X10_here_X10 : ∀ w ∈ wsX100, w ∈ wsX10_here := by decide +kernel
set_option maxHeartbeats 1000000 in
set_option maxRecDepth 100000 in
theorem c_X10_here (l : Launch) (g : va_G) (τ : Nat → ClassId) (ma : Nat → Nat) (M : Nat → Int) (S : Nat → Int) (hSB : SB S) (hPI : PI (M 9) (M 10) (M 11))  : Met l yX10_here wsX10_here { frames := 0, cells := 0, slots := 0, locals := 0 } (va_Pc [Value.ref (ma 0)] (roW g τ ([moO ma M, arC (ma 8) (τ 0) 120 S]))) (roQ (some (Value.int (iI (uH S (M 9) (M 10)))))) 0 0 nof := by
  obtain ⟨hpi1, hpi2, hpi3, hpi4, hpi5⟩ := id hPI
  refine roMet (cc := cX10_here) (maxL := 1) (ret := (some .int)) (lv := [(0, Value.ref (ma 0))]) (by decide) rfl (Nat.le_of_ble_eq_true rfl) rfl ?_
  intro p e s m below meth c hx hb hr hml hts hown hlocks hP hK ls hl
  refine lv_aload_n hx hb dX10_here_0 rfl (lv_at hl 0 rfl) ?_
  refine va_get (D := g) (ci := 10) (v := Value.int (iI (M 10))) (C := RX10) (T := TX10) (N := 18) hx hb hts in_X10_here_X10 hown hK.1 hP 0 (rfl) rfl 10 (by decide) (hts _ (List.mem_of_getElem? (i := 1) rfl) : (Cond.fieldLink RX10 153 "CordSealsModel" "at" "I").before _ s = true) (fun _ h9 => h9) rfl dX10_here_1 ?_
  refine lv_aload_n hx hb dX10_here_4 rfl (lv_at hl 0 rfl) ?_
  refine va_get (D := g) (ci := 10) (v := Value.int (iI (M 9))) (C := RX10) (T := TX10) (N := 18) hx hb hts in_X10_here_X10 hown hK.1 hP 0 (rfl) rfl 9 (by decide) (hts _ (List.mem_of_getElem? (i := 2) rfl) : (Cond.fieldLink RX10 147 "CordSealsModel" "length" "I").before _ s = true) (fun _ h9 => h9) rfl dX10_here_5 ?_
  refine zi_icmp_ge (tgt := 23) hx hb ⟨by omega, by omega⟩ ⟨by omega, by omega⟩ dX10_here_8 (by decide) (fun c_1 => ?_) (fun c_1 => ?_)
  · have _ := c_1
    refine lv_iconst (v := iI (-1)) hx hb dX10_here_23 (by decide) ?_
    exact zo_iret hx hb hr hlocks (by unfold uH; first | rw [if_pos (by omega)] | rw [if_neg (by omega)]) dX10_here_24
  · have _ := c_1
    refine lv_aload_n hx hb dX10_here_11 rfl (lv_at hl 0 rfl) ?_
    refine va_get (D := g) (ci := 10) (v := Value.ref (ma 8)) (C := RX10) (T := TX10) (N := 18) hx hb hts in_X10_here_X10 hown hK.1 hP 0 (rfl) rfl 8 (by decide) (hts _ (List.mem_of_getElem? (i := 3) rfl) : (Cond.fieldLink RX10 29 "CordSealsModel" "text" "[I").before _ s = true) (fun _ h9 => h9) rfl dX10_here_12 ?_
    refine lv_aload_n hx hb dX10_here_15 rfl (lv_at hl 0 rfl) ?_
    refine va_get (D := g) (ci := 10) (v := Value.int (iI (M 10))) (C := RX10) (T := TX10) (N := 18) hx hb hts in_X10_here_X10 hown hK.1 hP 0 (rfl) rfl 10 (by decide) (hts _ (List.mem_of_getElem? (i := 1) rfl) : (Cond.fieldLink RX10 153 "CordSealsModel" "at" "I").before _ s = true) (fun _ h9 => h9) rfl dX10_here_16 ?_
    refine zi_ald hx hb hK hP 1 (f := S) (rfl) ((M 10).toNat) (by omega) (by omega) (by decide) dX10_here_19 ?_
    refine lv_goto (tgt := 24) hx hb dX10_here_20 (by decide) ?_
    exact zo_iret hx hb hr hlocks (by unfold uH; first | rw [if_pos (by omega)] | rw [if_neg (by omega)]) dX10_here_24

theorem cd_X10_eat : cd yX10_eat 1 := by decide +kernel
theorem in_X10_eat_X10 : ∀ w ∈ wsX100, w ∈ wsX10_eat := by decide +kernel
set_option maxHeartbeats 1000000 in
set_option maxRecDepth 100000 in
theorem c_X10_eat (l : Launch) (g : va_G) (τ : Nat → ClassId) (ma : Nat → Nat) (M : Nat → Int) (b1 : Bool) (hg1 : 0 ≤ M 11 ∧ M 11 ≤ 1)  : Met l yX10_eat wsX10_eat { frames := 0, cells := 0, slots := 0, locals := 0 } (va_Pc [Value.ref (ma 0), Value.int (iI (zB b1))] (rwW g τ ([moO ma M]))) (rwQ g (fun v w => ∃ x : Int × Int, x = uE (M 10) (M 11) b1 ∧ v = none ∧ w = [moO ma (updZ (updZ M 10 x.1) 11 x.2)]) (inW ([moO ma M]))) 0 0 (inW ([moO ma M])) := by
  refine rwMet (cc := cX10_eat) (maxL := 2) (ret := none) (lv := [(0, Value.ref (ma 0)), (1, Value.int (iI (zB b1)))]) (by decide) rfl (Nat.le_of_ble_eq_true rfl) rfl ?_
  intro p e s m below meth c hx hb hr hml hts hown hlocks A H hP hD hS hK ls hl
  refine lv_aload_n hx hb dX10_eat_0 rfl (lv_at hl 0 rfl) ?_
  refine lv_aload_n hx hb dX10_eat_1 rfl (lv_at hl 0 rfl) ?_
  refine va_get (D := g) (ci := 10) (v := Value.int (iI (M 11))) (C := RX10) (T := TX10) (N := 18) hx hb hts in_X10_eat_X10 hown hK.1 hP 0 (rfl) rfl 11 (by decide) (hts _ (List.mem_of_getElem? (i := 1) rfl) : (Cond.fieldLink RX10 156 "CordSealsModel" "good" "Z").before _ s = true) (fun _ h9 => h9) rfl dX10_eat_2 ?_
  refine zi_if_eq (tgt := 16) hx hb ⟨by omega, by omega⟩ dX10_eat_5 (by decide) (fun c_1 => ?_) (fun c_1 => ?_)
  · have _ := c_1
    refine lv_iconst (v := iI 0) hx hb dX10_eat_16 (by decide) ?_
    refine va_put (D := g) (ci := 10) (v := Value.int (iI 0)) (ty := .boolean) (C := RX10) (T := TX10) (N := 18) hx hb hts in_X10_eat_X10 tyX10 tyX10_ok nmX10 hown hK.1 hP hD hS 0 (rfl) rfl 11 (by decide) (hts _ (List.mem_of_getElem? (i := 1) rfl) : (Cond.fieldLink RX10 156 "CordSealsModel" "good" "Z").before _ s = true) (fun _ h9 => h9) rfl (by decide +kernel) (by first | rfl | decide | exact nar_b2 _) (by first | rfl | decide | exact fit_b2 _) (Nat.le_of_ble_eq_true rfl) dX10_eat_17 (fun H locs hP hD hS => ?_)
    have hP : va_P g vwCl ([moO ma (updZ M 11 0)]) H := hP
    have hD : va_D A ([moO ma (updZ M 11 0)]) := hD
    refine lv_aload_n hx hb dX10_eat_20 rfl (lv_at hl 0 rfl) ?_
    refine lv_dup hx hb dX10_eat_21 rfl ?_
    refine va_get (D := g) (ci := 10) (v := Value.int (iI (M 10))) (C := RX10) (T := TX10) (N := 18) hx hb hts in_X10_eat_X10 hown hK.1 hP 0 (rfl) rfl 10 (by decide) (hts _ (List.mem_of_getElem? (i := 2) rfl) : (Cond.fieldLink RX10 153 "CordSealsModel" "at" "I").before _ s = true) (fun _ h9 => h9) rfl dX10_eat_22 ?_
    refine lv_aload_n hx hb dX10_eat_25 rfl (lv_at hl 0 rfl) ?_
    refine va_get (D := g) (ci := 10) (v := Value.int (iI 0)) (C := RX10) (T := TX10) (N := 18) hx hb hts in_X10_eat_X10 hown hK.1 hP 0 (rfl) rfl 11 (by decide) (hts _ (List.mem_of_getElem? (i := 1) rfl) : (Cond.fieldLink RX10 156 "CordSealsModel" "good" "Z").before _ s = true) (fun _ h9 => h9) rfl dX10_eat_26 ?_
    refine zi_if_eq (tgt := 36) hx hb ⟨by decide, by decide⟩ dX10_eat_29 (by decide) (fun c_2 => ?_) (fun c_2 => ?_)
    · skip
      refine lv_iconst (v := iI 0) hx hb dX10_eat_36 (by decide) ?_
      refine zi_add hx hb dX10_eat_37 ?_
      refine va_put (D := g) (ci := 10) (v := Value.int (iI ((M 10) + 0))) (ty := .int) (C := RX10) (T := TX10) (N := 18) hx hb hts in_X10_eat_X10 tyX10 tyX10_ok nmX10 hown hK.1 hP hD hS 0 (rfl) rfl 10 (by decide) (hts _ (List.mem_of_getElem? (i := 2) rfl) : (Cond.fieldLink RX10 153 "CordSealsModel" "at" "I").before _ s = true) (fun _ h9 => h9) rfl (by decide +kernel) rfl rfl (Nat.le_of_ble_eq_true rfl) dX10_eat_38 (fun H locs hP hD hS => ?_)
      have hP : va_P g vwCl ([moO ma (updZ (updZ M 10 ((M 10) + 0)) 11 0)]) H := hP
      have hD : va_D A ([moO ma (updZ (updZ M 10 ((M 10) + 0)) 11 0)]) := hD
      exact rw_vret hx hb hr hlocks hP hS (by first | exact absurd ((show b1 = true from by assumption).symm.trans (show b1 = false from by assumption)) (by decide) | (exfalso; omega) | exact ⟨(M 10 + 1, 1), by unfold uE; rw [if_pos ⟨by omega, by assumption⟩], rfl, rfl⟩ | exact ⟨(M 10, 0), by unfold uE; rw [if_neg (by rintro ⟨q1, q2⟩; first | omega | exact absurd ((show b1 = true from by assumption).symm.trans (show b1 = false from by assumption)) (by decide))], rfl, by rw [Int.add_zero]⟩) dX10_eat_41
    · exact absurd c_2 (by decide)
  · have _ := c_1
    refine lv_iload_n hx hb dX10_eat_8 rfl (lv_at hl 1 rfl) ?_
    refine zb_if_eq (tgt := 16) hx hb dX10_eat_9 (by decide) (fun c_3 => ?_) (fun c_3 => ?_)
    · have _ := c_3
      refine lv_iconst (v := iI 0) hx hb dX10_eat_16 (by decide) ?_
      refine va_put (D := g) (ci := 10) (v := Value.int (iI 0)) (ty := .boolean) (C := RX10) (T := TX10) (N := 18) hx hb hts in_X10_eat_X10 tyX10 tyX10_ok nmX10 hown hK.1 hP hD hS 0 (rfl) rfl 11 (by decide) (hts _ (List.mem_of_getElem? (i := 1) rfl) : (Cond.fieldLink RX10 156 "CordSealsModel" "good" "Z").before _ s = true) (fun _ h9 => h9) rfl (by decide +kernel) (by first | rfl | decide | exact nar_b2 _) (by first | rfl | decide | exact fit_b2 _) (Nat.le_of_ble_eq_true rfl) dX10_eat_17 (fun H locs hP hD hS => ?_)
      have hP : va_P g vwCl ([moO ma (updZ M 11 0)]) H := hP
      have hD : va_D A ([moO ma (updZ M 11 0)]) := hD
      refine lv_aload_n hx hb dX10_eat_20 rfl (lv_at hl 0 rfl) ?_
      refine lv_dup hx hb dX10_eat_21 rfl ?_
      refine va_get (D := g) (ci := 10) (v := Value.int (iI (M 10))) (C := RX10) (T := TX10) (N := 18) hx hb hts in_X10_eat_X10 hown hK.1 hP 0 (rfl) rfl 10 (by decide) (hts _ (List.mem_of_getElem? (i := 2) rfl) : (Cond.fieldLink RX10 153 "CordSealsModel" "at" "I").before _ s = true) (fun _ h9 => h9) rfl dX10_eat_22 ?_
      refine lv_aload_n hx hb dX10_eat_25 rfl (lv_at hl 0 rfl) ?_
      refine va_get (D := g) (ci := 10) (v := Value.int (iI 0)) (C := RX10) (T := TX10) (N := 18) hx hb hts in_X10_eat_X10 hown hK.1 hP 0 (rfl) rfl 11 (by decide) (hts _ (List.mem_of_getElem? (i := 1) rfl) : (Cond.fieldLink RX10 156 "CordSealsModel" "good" "Z").before _ s = true) (fun _ h9 => h9) rfl dX10_eat_26 ?_
      refine zi_if_eq (tgt := 36) hx hb ⟨by decide, by decide⟩ dX10_eat_29 (by decide) (fun c_4 => ?_) (fun c_4 => ?_)
      · skip
        refine lv_iconst (v := iI 0) hx hb dX10_eat_36 (by decide) ?_
        refine zi_add hx hb dX10_eat_37 ?_
        refine va_put (D := g) (ci := 10) (v := Value.int (iI ((M 10) + 0))) (ty := .int) (C := RX10) (T := TX10) (N := 18) hx hb hts in_X10_eat_X10 tyX10 tyX10_ok nmX10 hown hK.1 hP hD hS 0 (rfl) rfl 10 (by decide) (hts _ (List.mem_of_getElem? (i := 2) rfl) : (Cond.fieldLink RX10 153 "CordSealsModel" "at" "I").before _ s = true) (fun _ h9 => h9) rfl (by decide +kernel) rfl rfl (Nat.le_of_ble_eq_true rfl) dX10_eat_38 (fun H locs hP hD hS => ?_)
        have hP : va_P g vwCl ([moO ma (updZ (updZ M 10 ((M 10) + 0)) 11 0)]) H := hP
        have hD : va_D A ([moO ma (updZ (updZ M 10 ((M 10) + 0)) 11 0)]) := hD
        exact rw_vret hx hb hr hlocks hP hS (by first | exact absurd ((show b1 = true from by assumption).symm.trans (show b1 = false from by assumption)) (by decide) | (exfalso; omega) | exact ⟨(M 10 + 1, 1), by unfold uE; rw [if_pos ⟨by omega, by assumption⟩], rfl, rfl⟩ | exact ⟨(M 10, 0), by unfold uE; rw [if_neg (by rintro ⟨q1, q2⟩; first | omega | exact absurd ((show b1 = true from by assumption).symm.trans (show b1 = false from by assumption)) (by decide))], rfl, by rw [Int.add_zero]⟩) dX10_eat_41
      · exact absurd c_4 (by decide)
    · have _ := c_3
      refine lv_iconst (v := iI 1) hx hb dX10_eat_12 (by decide) ?_
      refine lv_goto (tgt := 17) hx hb dX10_eat_13 (by decide) ?_
      refine va_put (D := g) (ci := 10) (v := Value.int (iI 1)) (ty := .boolean) (C := RX10) (T := TX10) (N := 18) hx hb hts in_X10_eat_X10 tyX10 tyX10_ok nmX10 hown hK.1 hP hD hS 0 (rfl) rfl 11 (by decide) (hts _ (List.mem_of_getElem? (i := 1) rfl) : (Cond.fieldLink RX10 156 "CordSealsModel" "good" "Z").before _ s = true) (fun _ h9 => h9) rfl (by decide +kernel) (by first | rfl | decide | exact nar_b2 _) (by first | rfl | decide | exact fit_b2 _) (Nat.le_of_ble_eq_true rfl) dX10_eat_17 (fun H locs hP hD hS => ?_)
      have hP : va_P g vwCl ([moO ma (updZ M 11 1)]) H := hP
      have hD : va_D A ([moO ma (updZ M 11 1)]) := hD
      refine lv_aload_n hx hb dX10_eat_20 rfl (lv_at hl 0 rfl) ?_
      refine lv_dup hx hb dX10_eat_21 rfl ?_
      refine va_get (D := g) (ci := 10) (v := Value.int (iI (M 10))) (C := RX10) (T := TX10) (N := 18) hx hb hts in_X10_eat_X10 hown hK.1 hP 0 (rfl) rfl 10 (by decide) (hts _ (List.mem_of_getElem? (i := 2) rfl) : (Cond.fieldLink RX10 153 "CordSealsModel" "at" "I").before _ s = true) (fun _ h9 => h9) rfl dX10_eat_22 ?_
      refine lv_aload_n hx hb dX10_eat_25 rfl (lv_at hl 0 rfl) ?_
      refine va_get (D := g) (ci := 10) (v := Value.int (iI 1)) (C := RX10) (T := TX10) (N := 18) hx hb hts in_X10_eat_X10 hown hK.1 hP 0 (rfl) rfl 11 (by decide) (hts _ (List.mem_of_getElem? (i := 1) rfl) : (Cond.fieldLink RX10 156 "CordSealsModel" "good" "Z").before _ s = true) (fun _ h9 => h9) rfl dX10_eat_26 ?_
      refine zi_if_eq (tgt := 36) hx hb ⟨by decide, by decide⟩ dX10_eat_29 (by decide) (fun c_5 => ?_) (fun c_5 => ?_)
      · exact absurd c_5 (by decide)
      refine lv_iconst (v := iI 1) hx hb dX10_eat_32 (by decide) ?_
      refine lv_goto (tgt := 37) hx hb dX10_eat_33 (by decide) ?_
      refine zi_add hx hb dX10_eat_37 ?_
      refine va_put (D := g) (ci := 10) (v := Value.int (iI ((M 10) + 1))) (ty := .int) (C := RX10) (T := TX10) (N := 18) hx hb hts in_X10_eat_X10 tyX10 tyX10_ok nmX10 hown hK.1 hP hD hS 0 (rfl) rfl 10 (by decide) (hts _ (List.mem_of_getElem? (i := 2) rfl) : (Cond.fieldLink RX10 153 "CordSealsModel" "at" "I").before _ s = true) (fun _ h9 => h9) rfl (by decide +kernel) rfl rfl (Nat.le_of_ble_eq_true rfl) dX10_eat_38 (fun H locs hP hD hS => ?_)
      have hP : va_P g vwCl ([moO ma (updZ (updZ M 10 ((M 10) + 1)) 11 1)]) H := hP
      have hD : va_D A ([moO ma (updZ (updZ M 10 ((M 10) + 1)) 11 1)]) := hD
      exact rw_vret hx hb hr hlocks hP hS (by first | exact absurd ((show b1 = true from by assumption).symm.trans (show b1 = false from by assumption)) (by decide) | (exfalso; omega) | exact ⟨(M 10 + 1, 1), by unfold uE; rw [if_pos ⟨by omega, by assumption⟩], rfl, rfl⟩ | exact ⟨(M 10, 0), by unfold uE; rw [if_neg (by rintro ⟨q1, q2⟩; first | omega | exact absurd ((show b1 = true from by assumption).symm.trans (show b1 = false from by assumption)) (by decide))], rfl, by rw [Int.add_zero]⟩) dX10_eat_41

theorem cd_X10_digit : cd yX10_digit 2 := by decide +kernel
theorem in_X10_digit_X10 : ∀ w ∈ wsX100, w ∈ wsX10_digit := by decide +kernel
set_option maxHeartbeats 1000000 in
set_option maxRecDepth 100000 in
theorem c_X10_digit (l : Launch) (g : va_G) (τ : Nat → ClassId) (ma : Nat → Nat) (M : Nat → Int) (S : Nat → Int) (hSB : SB S) (hPI : PI (M 9) (M 10) (M 11)) (a1 b1 : Int) (ha1 : 0 ≤ a1 ∧ a1 ≤ 32) (hb1 : 0 ≤ b1 ∧ b1 ≤ 9)  : Met l yX10_digit wsX10_digit { frames := 1, cells := 0, slots := 0, locals := 25 } (va_Pc [Value.ref (ma 0), Value.int (iI a1), Value.int (iI b1)] (rwW g τ ([moO ma M, arC (ma 8) (τ 0) 120 S]))) (rwQ g (fun v w => ∃ d : Int × Int × Int, d = uD S (M 9) (M 10) (M 11) a1 b1 ∧ v = some (Value.int (iI d.1)) ∧ w = [moO ma (updZ (updZ M 10 d.2.1) 11 d.2.2), arC (ma 8) (τ 0) 120 S]) (inW ([moO ma M, arC (ma 8) (τ 0) 120 S]))) 0 0 (inW ([moO ma M, arC (ma 8) (τ 0) 120 S])) := by
  obtain ⟨hpi1, hpi2, hpi3, hpi4, hpi5⟩ := id hPI
  refine rwMet (cc := cX10_digit) (maxL := 4) (ret := (some .int)) (lv := [(0, Value.ref (ma 0)), (1, Value.int (iI a1)), (2, Value.int (iI b1))]) (by decide) rfl (Nat.le_of_ble_eq_true rfl) rfl ?_
  intro p e s m below meth c hx hb hr hml hts hown hlocks A H hP hD hS hK ls hl
  refine lv_aload_n hx hb dX10_digit_0 rfl (lv_at hl 0 rfl) ?_
  refine ro_V (As := []) (rest := []) (v := some (Value.int (iI (uH S (M 9) (M 10))))) ⟨hx, hb, hml, hown, hts⟩ (c_X10_here l g τ ma M S hSB (by show PI (M 9) (M 10) (M 11); exact ⟨by omega, by omega, by omega, by omega, by omega⟩)) gX10_digit_X10_here cd_X10_here rfl rfl ⟨rfl, rfl⟩ ⟨Nat.le_of_ble_eq_true rfl, Nat.le_of_ble_eq_true rfl⟩ hK (cut_P (is := [0, 1]) hP rfl) 0 rfl rfl rfl rfl hl rfl (Nat.le_of_ble_eq_true rfl) dX10_digit_1 ⟨Nat.le_of_ble_eq_true rfl, Nat.le_of_ble_eq_true rfl⟩ ?_
  refine tl_some ?_
  have huh := uH_b hSB (M 9) (M 10)
  refine lv_bipush (v := iI 48) hx hb dX10_digit_4 (by decide) ?_
  refine zi_sub hx hb dX10_digit_6 ?_
  refine lv_istore_n (lv' := [(3, Value.int (iI ((uH S (M 9) (M 10)) - 48))), (0, Value.ref (ma 0)), (1, Value.int (iI a1)), (2, Value.int (iI b1))]) hx hb dX10_digit_7 rfl hl (by decide) rfl (fun ls hl => ?_)
  refine lv_aload_n hx hb dX10_digit_8 rfl (lv_at hl 1 rfl) ?_
  refine lv_iload_n hx hb dX10_digit_9 rfl (lv_at hl 0 rfl) ?_
  refine lv_i2l (v := (iI ((uH S (M 9) (M 10)) - 48)).toInt64) hx hb dX10_digit_10 rfl ?_
  refine cv_l (y := iL ((uH S (M 9) (M 10)) - 48)) (i2l_iL ⟨by omega, by omega⟩) ?_
  refine lv_iload_n hx hb dX10_digit_11 rfl (lv_at hl 2 rfl) ?_
  refine lv_i2l (v := (iI a1).toInt64) hx hb dX10_digit_12 rfl ?_
  refine cv_l (y := iL a1) (i2l_iL ⟨by omega, by omega⟩) ?_
  refine lv_iload_n hx hb dX10_digit_13 rfl (lv_at hl 3 rfl) ?_
  refine lv_i2l (v := (iI b1).toInt64) hx hb dX10_digit_14 rfl ?_
  refine cv_l (y := iL b1) (i2l_iL ⟨by omega, by omega⟩) ?_
  refine ro_S (As := [Value.long (iL ((uH S (M 9) (M 10)) - 48)), Value.long (iL a1), Value.long (iL b1)]) (rest := [Value.ref (ma 0)]) (v := some (Value.int (iI (zB (decide (a1 ≤ ((uH S (M 9) (M 10)) - 48) ∧ ((uH S (M 9) (M 10)) - 48) ≤ b1)))))) ⟨hx, hb, hml, hown, hts⟩ (c_X10_in l g τ ((uH S (M 9) (M 10)) - 48) a1 b1 ⟨by omega, by omega⟩ ⟨by omega, by omega⟩ ⟨by omega, by omega⟩) gX10_digit_X10_in cd_X10_in rfl ⟨rfl, rfl⟩ ⟨Nat.le_of_ble_eq_true rfl, Nat.le_of_ble_eq_true rfl⟩ hK (fun _ _ h => by cases h) rfl hl rfl (Nat.le_of_ble_eq_true rfl) dX10_digit_15 ⟨Nat.le_of_ble_eq_true rfl, Nat.le_of_ble_eq_true rfl⟩ ?_
  refine tl_some ?_
  refine rw_V (As := [Value.int (iI (zB (decide (a1 ≤ ((uH S (M 9) (M 10)) - 48) ∧ ((uH S (M 9) (M 10)) - 48) ≤ b1))))]) (rest := []) ⟨hx, hb, hml, hown, hts⟩ (c_X10_eat l g τ ma M (decide (a1 ≤ ((uH S (M 9) (M 10)) - 48) ∧ ((uH S (M 9) (M 10)) - 48) ≤ b1)) (by show 0 ≤ M 11 ∧ M 11 ≤ 1; omega)) gX10_digit_X10_eat cd_X10_eat rfl rfl ⟨rfl, rfl⟩ ⟨Nat.le_of_ble_eq_true rfl, Nat.le_of_ble_eq_true rfl⟩ hK hP hD hS [0] (rfl) (by decide) 0 rfl rfl rfl rfl hl rfl (Nat.le_of_ble_eq_true rfl) dX10_digit_18 ⟨Nat.le_of_ble_eq_true rfl, Nat.le_of_ble_eq_true rfl⟩ (fun v w h => by obtain ⟨x9, -, -, rfl⟩ := h; rfl) (fun v w1 H locs hZ hP hD hS => ?_)
  obtain ⟨x_1, hex_1, rfl, rfl⟩ := hZ
  have hP : va_P g vwCl ([moO ma (updZ (updZ M 10 x_1.1) 11 x_1.2), arC (ma 8) (τ 0) 120 S]) H := hP
  have hD : va_D A ([moO ma (updZ (updZ M 10 x_1.1) 11 x_1.2), arC (ma 8) (τ 0) 120 S]) := hD
  have hex_1 : x_1 = uE (M 10) (M 11) (decide (a1 ≤ ((uH S (M 9) (M 10)) - 48) ∧ ((uH S (M 9) (M 10)) - 48) ≤ b1)) := hex_1
  have hmx_1 := uE_m (M 10) (M 11) (decide (a1 ≤ ((uH S (M 9) (M 10)) - 48) ∧ ((uH S (M 9) (M 10)) - 48) ≤ b1))
  rw [← hex_1] at hmx_1
  refine tl_none ?_
  refine lv_aload_n hx hb dX10_digit_21 rfl (lv_at hl 1 rfl) ?_
  refine va_get (D := g) (ci := 10) (v := Value.int (iI x_1.2)) (C := RX10) (T := TX10) (N := 18) hx hb hts in_X10_digit_X10 hown hK.1 hP 0 (rfl) rfl 11 (by decide) (hts _ (List.mem_of_getElem? (i := 1) rfl) : (Cond.fieldLink RX10 156 "CordSealsModel" "good" "Z").before _ s = true) (fun _ h9 => h9) rfl dX10_digit_22 ?_
  refine zi_if_eq (tgt := 32) hx hb ⟨by omega, by omega⟩ dX10_digit_25 (by decide) (fun c_2 => ?_) (fun c_2 => ?_)
  · have _ := c_2
    refine lv_iload_n hx hb dX10_digit_32 rfl (lv_at hl 2 rfl) ?_
    exact rw_iret hx hb hr hlocks hP hS (by (have he : x_1 = uE (M 10) (M 11) (uB S (M 9) (M 10) a1 b1) := hex_1); exact ⟨(if (x_1).2 = 0 then a1 else uH S (M 9) (M 10) - 48, x_1), by unfold uD; rw [← he], by first | rw [if_pos (by omega)] | rw [if_neg (by omega)], rfl⟩) dX10_digit_33
  · have _ := c_2
    refine lv_iload_n hx hb dX10_digit_28 rfl (lv_at hl 0 rfl) ?_
    refine lv_goto (tgt := 33) hx hb dX10_digit_29 (by decide) ?_
    exact rw_iret hx hb hr hlocks hP hS (by (have he : x_1 = uE (M 10) (M 11) (uB S (M 9) (M 10) a1 b1) := hex_1); exact ⟨(if (x_1).2 = 0 then a1 else uH S (M 9) (M 10) - 48, x_1), by unfold uD; rw [← he], by first | rw [if_pos (by omega)] | rw [if_neg (by omega)], rfl⟩) dX10_digit_33

theorem cd_X10_readYear : cd yX10_readYear 0 := by decide +kernel
set_option maxHeartbeats 1000000 in
set_option maxRecDepth 100000 in
theorem c_X10_readYear (l : Launch) (g : va_G) (τ : Nat → ClassId) (ma : Nat → Nat) (M : Nat → Int) (S : Nat → Int) (hSB : SB S) (hPI : PI (M 9) (M 10) (M 11))  : Met l yX10_readYear wsX10_readYear { frames := 2, cells := 0, slots := 0, locals := 48 } (va_Pc [Value.ref (ma 0)] (rwW g τ ([moO ma M, arC (ma 8) (τ 0) 120 S]))) (rwQ g (fun v w => ∃ d : Int × Int × Int, d = uY S (M 9) (M 10) (M 11) 3 ∧ v = some (Value.int (iI d.1)) ∧ w = [moO ma (updZ (updZ M 10 d.2.1) 11 d.2.2), arC (ma 8) (τ 0) 120 S]) (inW ([moO ma M, arC (ma 8) (τ 0) 120 S]))) 0 0 (inW ([moO ma M, arC (ma 8) (τ 0) 120 S])) := by
  obtain ⟨hpi1, hpi2, hpi3, hpi4, hpi5⟩ := id hPI
  refine rwMet (cc := cX10_readYear) (maxL := 3) (ret := (some .int)) (lv := [(0, Value.ref (ma 0))]) (by decide) rfl (Nat.le_of_ble_eq_true rfl) rfl ?_
  intro p e s m below meth c hx hb hr hml hts hown hlocks A H hP hD hS hK ls hl
  refine lv_aload_n hx hb dX10_readYear_0 rfl (lv_at hl 0 rfl) ?_
  refine lv_iconst (v := iI 1) hx hb dX10_readYear_1 (by decide) ?_
  refine lv_iconst (v := iI 1) hx hb dX10_readYear_2 (by decide) ?_
  refine rw_V (As := [Value.int (iI 1), Value.int (iI 1)]) (rest := []) ⟨hx, hb, hml, hown, hts⟩ (c_X10_digit l g τ ma M S hSB (by show PI (M 9) (M 10) (M 11); exact ⟨by omega, by omega, by omega, by omega, by omega⟩) 1 1 (by omega) (by omega)) gX10_readYear_X10_digit cd_X10_digit rfl rfl ⟨rfl, rfl⟩ ⟨Nat.le_of_ble_eq_true rfl, Nat.le_of_ble_eq_true rfl⟩ hK hP hD hS [0, 1] (rfl) (by decide) 0 rfl rfl rfl rfl hl rfl (Nat.le_of_ble_eq_true rfl) dX10_readYear_3 ⟨Nat.le_of_ble_eq_true rfl, Nat.le_of_ble_eq_true rfl⟩ (fun v w h => by obtain ⟨x9, -, -, rfl⟩ := h; rfl) (fun v w1 H locs hZ hP hD hS => ?_)
  obtain ⟨d_1, hed_1, rfl, rfl⟩ := hZ
  have hP : va_P g vwCl ([moO ma (updZ (updZ M 10 d_1.2.1) 11 d_1.2.2), arC (ma 8) (τ 0) 120 S]) H := hP
  have hD : va_D A ([moO ma (updZ (updZ M 10 d_1.2.1) 11 d_1.2.2), arC (ma 8) (τ 0) 120 S]) := hD
  have hed_1 : d_1 = uD S (M 9) (M 10) (M 11) 1 1 := hed_1
  have hmd_1 := uD_m S (M 9) (M 10) (M 11) 1 1
  have hod_1 := uD_ok (S := S) (show PI (M 9) (M 10) (M 11) from ⟨by omega, by omega, by omega, by omega, by omega⟩) (show 0 ≤ 1 by omega) 1
  rw [← hed_1] at hmd_1 hod_1
  obtain ⟨hod_11, hod_12, hod_13, hod_14, hod_15⟩ := hod_1
  refine tl_some ?_
  refine lv_istore_n (lv' := [(1, Value.int (iI d_1.1)), (0, Value.ref (ma 0))]) hx hb dX10_readYear_6 rfl hl (by decide) rfl (fun ls hl => ?_)
  refine lv_iconst (v := iI 0) hx hb dX10_readYear_7 (by decide) ?_
  refine lv_istore_n (lv' := [(2, Value.int (iI 0)), (1, Value.int (iI d_1.1)), (0, Value.ref (ma 0))]) hx hb dX10_readYear_8 rfl hl (by decide) rfl (fun ls hl => ?_)
  have h0_2 : (uY S (M 9) (M 10) (M 11) 0).1 = d_1.1 := by subst hed_1; rfl
  have hP : va_P g vwCl ([moO ma (updZ (updZ M 10 ((uY S (M 9) (M 10) (M 11) 0).2.1)) 11 ((uY S (M 9) (M 10) (M 11) 0).2.2)), arC (ma 8) (τ 0) 120 S]) H := by first | exact hP | (subst hed_1; exact hP)
  have hD : va_D A ([moO ma (updZ (updZ M 10 ((uY S (M 9) (M 10) (M 11) 0).2.1)) 11 ((uY S (M 9) (M 10) (M 11) 0).2.2)), arC (ma 8) (τ 0) 120 S]) := by first | exact hD | (subst hed_1; exact hD)
  refine lp_upW (fun i => [(2, Value.int (iI (i : Int))), (1, Value.int (iI ((uY S (M 9) (M 10) (M 11) i).1))), (0, Value.ref (ma 0))]) (fun i => [moO ma (updZ (updZ M 10 ((uY S (M 9) (M 10) (M 11) i).2.1)) 11 ((uY S (M 9) (M 10) (M 11) i).2.2)), arC (ma 8) (τ 0) 120 S]) (fun i => True) (3) (0) (by omega) hP hD hS (by first | trivial | (intro j hj; omega)) (lv_eq (lv_sub hl [0, 1, 2] rfl) (by show [(2, Value.int (iI 0)), (1, Value.int (iI ((uY S (M 9) (M 10) (M 11) 0).1))), (0, Value.ref (ma 0))] = [(2, Value.int (iI 0)), (1, Value.int (iI d_1.1)), (0, Value.ref (ma 0))]; rw [h0_2])) (fun i h0_i hi_i hI_i ih_9 H locs hP hD hS ls hl => ?_)
  have hy := uY_ok (S := S) hPI i
  obtain ⟨hy1, hy2, hy3, hy4, hy5⟩ := hy
  refine lv_iload_n hx hb dX10_readYear_9 rfl (lv_at hl 0 rfl) ?_
  refine lv_iconst (v := iI 3) hx hb dX10_readYear_10 (by decide) ?_
  refine zi_icmp_ge (tgt := 33) hx hb ⟨by omega, by omega⟩ ⟨by decide, by decide⟩ dX10_readYear_11 (by decide) (fun c_3 => ?_) (fun c_3 => ?_)
  · have _ := c_3
    have h0_i : i = 3 := by omega
    refine lv_iload_n hx hb dX10_readYear_33 rfl (lv_at hl 1 rfl) ?_
    exact rw_iret hx hb hr hlocks hP hS (⟨_, rfl, by rw [h0_i], by rw [h0_i]⟩) dX10_readYear_34
  · have _ := c_3
    have hl_i : i < 3 := by omega
    refine lv_bipush (v := iI 10) hx hb dX10_readYear_14 (by decide) ?_
    refine lv_iload_n hx hb dX10_readYear_16 rfl (lv_at hl 1 rfl) ?_
    refine zi_mul hx hb dX10_readYear_17 ?_
    refine lv_aload_n hx hb dX10_readYear_18 rfl (lv_at hl 2 rfl) ?_
    refine lv_iconst (v := iI 0) hx hb dX10_readYear_19 (by decide) ?_
    refine lv_bipush (v := iI 9) hx hb dX10_readYear_20 (by decide) ?_
    refine rw_V (As := [Value.int (iI 0), Value.int (iI 9)]) (rest := [Value.int (iI (10 * ((uY S (M 9) (M 10) (M 11) i).1)))]) ⟨hx, hb, hml, hown, hts⟩ (c_X10_digit l g τ ma (updZ (updZ M 10 ((uY S (M 9) (M 10) (M 11) i).2.1)) 11 ((uY S (M 9) (M 10) (M 11) i).2.2)) S hSB (by show PI (M 9) ((uY S (M 9) (M 10) (M 11) i).2.1) ((uY S (M 9) (M 10) (M 11) i).2.2); exact ⟨by omega, by omega, by omega, by omega, by omega⟩) 0 9 (by omega) (by omega)) gX10_readYear_X10_digit cd_X10_digit rfl rfl ⟨rfl, rfl⟩ ⟨Nat.le_of_ble_eq_true rfl, Nat.le_of_ble_eq_true rfl⟩ hK hP hD hS [0, 1] (rfl) (by decide) 0 rfl rfl rfl rfl hl rfl (Nat.le_of_ble_eq_true rfl) dX10_readYear_22 ⟨Nat.le_of_ble_eq_true rfl, Nat.le_of_ble_eq_true rfl⟩ (fun v w h => by obtain ⟨x9, -, -, rfl⟩ := h; rfl) (fun v w1 H locs hZ hP hD hS => ?_)
    obtain ⟨d_4, hed_4, rfl, rfl⟩ := hZ
    have hP : va_P g vwCl ([moO ma (updZ (updZ M 10 d_4.2.1) 11 d_4.2.2), arC (ma 8) (τ 0) 120 S]) H := hP
    have hD : va_D A ([moO ma (updZ (updZ M 10 d_4.2.1) 11 d_4.2.2), arC (ma 8) (τ 0) 120 S]) := hD
    have hed_4 : d_4 = uD S (M 9) ((uY S (M 9) (M 10) (M 11) i).2.1) ((uY S (M 9) (M 10) (M 11) i).2.2) 0 9 := hed_4
    have hmd_4 := uD_m S (M 9) ((uY S (M 9) (M 10) (M 11) i).2.1) ((uY S (M 9) (M 10) (M 11) i).2.2) 0 9
    have hod_4 := uD_ok (S := S) (show PI (M 9) ((uY S (M 9) (M 10) (M 11) i).2.1) ((uY S (M 9) (M 10) (M 11) i).2.2) from ⟨by omega, by omega, by omega, by omega, by omega⟩) (show 0 ≤ 0 by omega) 9
    rw [← hed_4] at hmd_4 hod_4
    obtain ⟨hod_41, hod_42, hod_43, hod_44, hod_45⟩ := hod_4
    refine tl_some ?_
    refine zi_add hx hb dX10_readYear_25 ?_
    refine lv_istore_n (lv' := [(1, Value.int (iI ((10 * ((uY S (M 9) (M 10) (M 11) i).1)) + d_4.1))), (2, Value.int (iI (i : Int))), (0, Value.ref (ma 0))]) hx hb dX10_readYear_26 rfl hl (by decide) rfl (fun ls hl => ?_)
    refine zi_inc (v := ((i + 1 : Nat) : Int)) (lv' := [(2, Value.int (iI ((i + 1 : Nat) : Int))), (1, Value.int (iI ((10 * ((uY S (M 9) (M 10) (M 11) i).1)) + d_4.1))), (0, Value.ref (ma 0))]) hx hb dX10_readYear_27 hl (k := 1) rfl (by omega) (by decide) rfl (fun ls hl => ?_)
    refine lv_goto (tgt := 9) hx hb dX10_readYear_30 (by decide) ?_
    have hb_5 : (((i + 1) : Nat) : Int) = ((i + 1 : Nat) : Int) := by first | rfl | omega | (simp [c_3]; done)
    have hb_6 : (uY S (M 9) (M 10) (M 11) (i + 1)).1 = (10 * ((uY S (M 9) (M 10) (M 11) i).1)) + d_4.1 := by rw [uY, ← hed_4]
    have hw_7 : [moO ma (updZ (updZ M 10 d_4.2.1) 11 d_4.2.2), arC (ma 8) (τ 0) 120 S] = [moO ma (updZ (updZ M 10 ((uY S (M 9) (M 10) (M 11) (i + 1)).2.1)) 11 ((uY S (M 9) (M 10) (M 11) (i + 1)).2.2)), arC (ma 8) (τ 0) 120 S] := by rw [uY, ← hed_4]
    rw [hw_7] at hP hD
    exact ih_9 hl_i (trivial) _ _ _ hP hD hS (lv_eq (lv_sub hl [0, 1, 2] rfl) (by show [(2, Value.int (iI (((i + 1) : Nat) : Int))), (1, Value.int (iI ((uY S (M 9) (M 10) (M 11) (i + 1)).1))), (0, Value.ref (ma 0))] = [(2, Value.int (iI ((i + 1 : Nat) : Int))), (1, Value.int (iI ((10 * ((uY S (M 9) (M 10) (M 11) i).1)) + d_4.1))), (0, Value.ref (ma 0))]; rw [hb_5, hb_6]))

theorem cd_X10_ascending : cd yX10_ascending 2 := by decide +kernel
theorem in_X10_ascending_X10 : ∀ w ∈ wsX100, w ∈ wsX10_ascending := by decide +kernel
set_option maxHeartbeats 2000000 in
set_option maxRecDepth 100000 in
theorem c_X10_ascending (l : Launch) (g : va_G) (τ : Nat → ClassId) (ma : Nat → Nat) (M : Nat → Int) (S : Nat → Int) (hSB : SB S) (hPI : PI (M 9) (M 10) (M 11)) (a1 b1 : Int) (hb1 : 0 ≤ b1 ∧ b1 ≤ 7) (ha1 : 0 ≤ a1 ∧ a1 ≤ b1 + 2 ∧ (¬ M 11 = 0 → a1 ≤ b1 + 1))  : Met l yX10_ascending wsX10_ascending { frames := 2, cells := 0, slots := 0, locals := 48 } (va_Pc [Value.ref (ma 0), Value.int (iI a1), Value.int (iI b1)] (rwW g τ ([moO ma M, arC (ma 8) (τ 0) 120 S]))) (rwQ g (fun v w => ∃ d : Int × Int × Int × Int, d = uAs S (M 9) b1 (0, a1, M 10, M 11) 122 ∧ v = some (Value.int (iI d.1)) ∧ w = [moO ma (updZ (updZ M 10 d.2.2.1) 11 d.2.2.2), arC (ma 8) (τ 0) 120 S]) (inW ([moO ma M, arC (ma 8) (τ 0) 120 S]))) 0 0 (inW ([moO ma M, arC (ma 8) (τ 0) 120 S])) := by
  obtain ⟨hpi1, hpi2, hpi3, hpi4, hpi5⟩ := id hPI
  have hok0 : uOK (M 9) b1 (0, a1, M 10, M 11) := uOK_i ha1.1 ha1.2.2 ha1.2.1 hPI
  refine rwMet (cc := cX10_ascending) (maxL := 6) (ret := (some .int)) (lv := [(0, Value.ref (ma 0)), (1, Value.int (iI a1)), (2, Value.int (iI b1))]) (by decide) rfl (Nat.le_of_ble_eq_true rfl) rfl ?_
  intro p e s m below meth c hx hb hr hml hts hown hlocks A H hP hD hS hK ls hl
  refine lv_iconst (v := iI 0) hx hb dX10_ascending_0 (by decide) ?_
  refine lv_istore_n (lv' := [(3, Value.int (iI 0)), (0, Value.ref (ma 0)), (1, Value.int (iI a1)), (2, Value.int (iI b1))]) hx hb dX10_ascending_1 rfl hl (by decide) rfl (fun ls hl => ?_)
  refine lv_iload_n hx hb dX10_ascending_2 rfl (lv_at hl 2 rfl) ?_
  refine lv_istore (lv' := [(4, Value.int (iI a1)), (3, Value.int (iI 0)), (0, Value.ref (ma 0)), (1, Value.int (iI a1)), (2, Value.int (iI b1))]) hx hb dX10_ascending_3 hl (by decide) rfl (fun ls hl => ?_)
  have h0_1 : (uAs S (M 9) b1 (0, a1, M 10, M 11) 0).2.1 = a1 := rfl
  have h0_2 : (uAs S (M 9) b1 (0, a1, M 10, M 11) 0).1 = 0 := rfl
  have hP : va_P g vwCl ([moO ma (updZ (updZ M 10 ((uAs S (M 9) b1 (0, a1, M 10, M 11) 0).2.2.1)) 11 ((uAs S (M 9) b1 (0, a1, M 10, M 11) 0).2.2.2)), arC (ma 8) (τ 0) 120 S]) H := by first | exact hP | (exact hP)
  have hD : va_D A ([moO ma (updZ (updZ M 10 ((uAs S (M 9) b1 (0, a1, M 10, M 11) 0).2.2.1)) 11 ((uAs S (M 9) b1 (0, a1, M 10, M 11) 0).2.2.2)), arC (ma 8) (τ 0) 120 S]) := by first | exact hD | (exact hD)
  refine lp_upW (fun i => [(4, Value.int (iI ((uAs S (M 9) b1 (0, a1, M 10, M 11) i).2.1))), (3, Value.int (iI ((uAs S (M 9) b1 (0, a1, M 10, M 11) i).1))), (0, Value.ref (ma 0)), (1, Value.int (iI a1)), (2, Value.int (iI b1))]) (fun i => [moO ma (updZ (updZ M 10 ((uAs S (M 9) b1 (0, a1, M 10, M 11) i).2.2.1)) 11 ((uAs S (M 9) b1 (0, a1, M 10, M 11) i).2.2.2)), arC (ma 8) (τ 0) 120 S]) (fun i => (M 9 - (uAs S (M 9) b1 (0, a1, M 10, M 11) i).2.2.1) + (uAs S (M 9) b1 (0, a1, M 10, M 11) i).2.2.2 + (i : Int) ≤ 121) (122) (0) (by omega) hP hD hS (by show (M 9 - M 10) + M 11 + ((0 : Nat) : Int) ≤ 121; omega) (lv_eq (lv_sub hl [0, 1, 2, 3, 4] rfl) (by show [(4, Value.int (iI ((uAs S (M 9) b1 (0, a1, M 10, M 11) 0).2.1))), (3, Value.int (iI ((uAs S (M 9) b1 (0, a1, M 10, M 11) 0).1))), (0, Value.ref (ma 0)), (1, Value.int (iI a1)), (2, Value.int (iI b1))] = [(4, Value.int (iI a1)), (3, Value.int (iI 0)), (0, Value.ref (ma 0)), (1, Value.int (iI a1)), (2, Value.int (iI b1))]; rw [h0_1, h0_2])) (fun i h0_i hi_i hI_i ih_5 H locs hP hD hS ls hl => ?_)
  have hok := uAs_ok (S := S) hb1 hok0 i
  obtain ⟨⟨hk1, hk2⟩, hk3, hk4, hk5, hk6, hk7, hk8, hk9, hk10⟩ := id hok
  refine lv_aload_n hx hb dX10_ascending_5 rfl (lv_at hl 2 rfl) ?_
  refine va_get (D := g) (ci := 10) (v := Value.int (iI ((uAs S (M 9) b1 (0, a1, M 10, M 11) i).2.2.2))) (C := RX10) (T := TX10) (N := 18) hx hb hts in_X10_ascending_X10 hown hK.1 hP 0 (rfl) rfl 11 (by decide) (hts _ (List.mem_of_getElem? (i := 1) rfl) : (Cond.fieldLink RX10 156 "CordSealsModel" "good" "Z").before _ s = true) (fun _ h9 => h9) rfl dX10_ascending_6 ?_
  refine zi_if_eq (tgt := 68) hx hb ⟨by omega, by omega⟩ dX10_ascending_9 (by decide) (fun c_3 => ?_) (fun c_3 => ?_)
  · have _ := c_3
    refine lv_iload_n hx hb dX10_ascending_68 rfl (lv_at hl 1 rfl) ?_
    exact rw_iret hx hb hr hlocks hP hS (by refine ⟨_, rfl, ?_, ?_⟩ <;> rw [uAs_stop (i := i) (decide_eq_false (by intro q; omega)) 122 hi_i]) dX10_ascending_69
  · have _ := c_3
    refine lv_aload_n hx hb dX10_ascending_12 rfl (lv_at hl 2 rfl) ?_
    refine va_get (D := g) (ci := 10) (v := Value.int (iI ((uAs S (M 9) b1 (0, a1, M 10, M 11) i).2.2.1))) (C := RX10) (T := TX10) (N := 18) hx hb hts in_X10_ascending_X10 hown hK.1 hP 0 (rfl) rfl 10 (by decide) (hts _ (List.mem_of_getElem? (i := 2) rfl) : (Cond.fieldLink RX10 153 "CordSealsModel" "at" "I").before _ s = true) (fun _ h9 => h9) rfl dX10_ascending_13 ?_
    refine lv_aload_n hx hb dX10_ascending_16 rfl (lv_at hl 2 rfl) ?_
    refine va_get (D := g) (ci := 10) (v := Value.int (iI (M 9))) (C := RX10) (T := TX10) (N := 18) hx hb hts in_X10_ascending_X10 hown hK.1 hP 0 (rfl) rfl 9 (by decide) (hts _ (List.mem_of_getElem? (i := 3) rfl) : (Cond.fieldLink RX10 147 "CordSealsModel" "length" "I").before _ s = true) (fun _ h9 => h9) rfl dX10_ascending_17 ?_
    refine zi_icmp_ge (tgt := 68) hx hb ⟨by omega, by omega⟩ ⟨by omega, by omega⟩ dX10_ascending_20 (by decide) (fun c_4 => ?_) (fun c_4 => ?_)
    · have _ := c_4
      refine lv_iload_n hx hb dX10_ascending_68 rfl (lv_at hl 1 rfl) ?_
      exact rw_iret hx hb hr hlocks hP hS (by refine ⟨_, rfl, ?_, ?_⟩ <;> rw [uAs_stop (i := i) (decide_eq_false (by intro q; omega)) 122 hi_i]) dX10_ascending_69
    · have _ := c_4
      refine lv_aload_n hx hb dX10_ascending_23 rfl (lv_at hl 2 rfl) ?_
      refine ro_V (As := []) (rest := []) (v := some (Value.int (iI (uH S (M 9) ((uAs S (M 9) b1 (0, a1, M 10, M 11) i).2.2.1))))) ⟨hx, hb, hml, hown, hts⟩ (c_X10_here l g τ ma (updZ (updZ M 10 ((uAs S (M 9) b1 (0, a1, M 10, M 11) i).2.2.1)) 11 ((uAs S (M 9) b1 (0, a1, M 10, M 11) i).2.2.2)) S hSB (by show PI (M 9) ((uAs S (M 9) b1 (0, a1, M 10, M 11) i).2.2.1) ((uAs S (M 9) b1 (0, a1, M 10, M 11) i).2.2.2); exact ⟨by omega, by omega, by omega, by omega, by omega⟩)) gX10_ascending_X10_here cd_X10_here rfl rfl ⟨rfl, rfl⟩ ⟨Nat.le_of_ble_eq_true rfl, Nat.le_of_ble_eq_true rfl⟩ hK (cut_P (is := [0, 1]) hP rfl) 0 rfl rfl rfl rfl hl rfl (Nat.le_of_ble_eq_true rfl) dX10_ascending_24 ⟨Nat.le_of_ble_eq_true rfl, Nat.le_of_ble_eq_true rfl⟩ ?_
      refine tl_some ?_
      have huh := uH_b hSB (M 9) ((uAs S (M 9) b1 (0, a1, M 10, M 11) i).2.2.1)
      refine lv_bipush (v := iI 59) hx hb dX10_ascending_27 (by decide) ?_
      refine zi_icmp_eq (tgt := 68) hx hb ⟨by omega, by omega⟩ ⟨by decide, by decide⟩ dX10_ascending_29 (by decide) (fun c_5 => ?_) (fun c_5 => ?_)
      · have _ := c_5
        refine lv_iload_n hx hb dX10_ascending_68 rfl (lv_at hl 1 rfl) ?_
        exact rw_iret hx hb hr hlocks hP hS (by refine ⟨_, rfl, ?_, ?_⟩ <;> rw [uAs_stop (i := i) (decide_eq_false (by intro q; omega)) 122 hi_i]) dX10_ascending_69
      · have _ := c_5
        refine lv_aload_n hx hb dX10_ascending_32 rfl (lv_at hl 2 rfl) ?_
        refine lv_iload hx hb dX10_ascending_33 (lv_at hl 0 rfl) ?_
        refine lv_iload_n hx hb dX10_ascending_35 rfl (lv_at hl 4 rfl) ?_
        refine rw_V (As := [Value.int (iI ((uAs S (M 9) b1 (0, a1, M 10, M 11) i).2.1)), Value.int (iI b1)]) (rest := []) ⟨hx, hb, hml, hown, hts⟩ (c_X10_digit l g τ ma (updZ (updZ M 10 ((uAs S (M 9) b1 (0, a1, M 10, M 11) i).2.2.1)) 11 ((uAs S (M 9) b1 (0, a1, M 10, M 11) i).2.2.2)) S hSB (by show PI (M 9) ((uAs S (M 9) b1 (0, a1, M 10, M 11) i).2.2.1) ((uAs S (M 9) b1 (0, a1, M 10, M 11) i).2.2.2); exact ⟨by omega, by omega, by omega, by omega, by omega⟩) ((uAs S (M 9) b1 (0, a1, M 10, M 11) i).2.1) b1 (by omega) (by omega)) gX10_ascending_X10_digit cd_X10_digit rfl rfl ⟨rfl, rfl⟩ ⟨Nat.le_of_ble_eq_true rfl, Nat.le_of_ble_eq_true rfl⟩ hK hP hD hS [0, 1] (rfl) (by decide) 0 rfl rfl rfl rfl hl rfl (Nat.le_of_ble_eq_true rfl) dX10_ascending_36 ⟨Nat.le_of_ble_eq_true rfl, Nat.le_of_ble_eq_true rfl⟩ (fun v w h => by obtain ⟨x9, -, -, rfl⟩ := h; rfl) (fun v w1 H locs hZ hP hD hS => ?_)
        obtain ⟨d_6, hed_6, rfl, rfl⟩ := hZ
        have hP : va_P g vwCl ([moO ma (updZ (updZ M 10 d_6.2.1) 11 d_6.2.2), arC (ma 8) (τ 0) 120 S]) H := hP
        have hD : va_D A ([moO ma (updZ (updZ M 10 d_6.2.1) 11 d_6.2.2), arC (ma 8) (τ 0) 120 S]) := hD
        have hed_6 : d_6 = uD S (M 9) ((uAs S (M 9) b1 (0, a1, M 10, M 11) i).2.2.1) ((uAs S (M 9) b1 (0, a1, M 10, M 11) i).2.2.2) ((uAs S (M 9) b1 (0, a1, M 10, M 11) i).2.1) b1 := hed_6
        have hmd_6 := uD_m S (M 9) ((uAs S (M 9) b1 (0, a1, M 10, M 11) i).2.2.1) ((uAs S (M 9) b1 (0, a1, M 10, M 11) i).2.2.2) ((uAs S (M 9) b1 (0, a1, M 10, M 11) i).2.1) b1
        have hod_6 := uD_ok (S := S) (show PI (M 9) ((uAs S (M 9) b1 (0, a1, M 10, M 11) i).2.2.1) ((uAs S (M 9) b1 (0, a1, M 10, M 11) i).2.2.2) from ⟨by omega, by omega, by omega, by omega, by omega⟩) (show 0 ≤ ((uAs S (M 9) b1 (0, a1, M 10, M 11) i).2.1) by omega) b1
        rw [← hed_6] at hmd_6 hod_6
        obtain ⟨hod_61, hod_62, hod_63, hod_64, hod_65⟩ := hod_6
        refine tl_some ?_
        refine lv_istore (lv' := [(5, Value.int (iI d_6.1)), (4, Value.int (iI ((uAs S (M 9) b1 (0, a1, M 10, M 11) i).2.1))), (3, Value.int (iI ((uAs S (M 9) b1 (0, a1, M 10, M 11) i).1))), (0, Value.ref (ma 0)), (1, Value.int (iI a1)), (2, Value.int (iI b1))]) hx hb dX10_ascending_39 hl (by decide) rfl (fun ls hl => ?_)
        refine lv_iload_n hx hb dX10_ascending_41 rfl (lv_at hl 2 rfl) ?_
        refine jn (F0 m 57 ls (Value.int (iI (if d_6.2.2 = 0 then 0 else (2 : Int) ^ d_6.1.toNat)) :: Value.int (iI ((uAs S (M 9) b1 (0, a1, M 10, M 11) i).1)) :: [])) ?_ (fun K => ?_)
        · skip
          refine zi_or hx hb ⟨by omega, by split <;> first | exact Int.le_refl 0 | exact Int.le_of_lt (Int.pow_pos (by decide))⟩ dX10_ascending_57 ?_
          refine lv_istore_n (lv' := [(3, Value.int (iI (zor ((uAs S (M 9) b1 (0, a1, M 10, M 11) i).1) (if d_6.2.2 = 0 then 0 else (2 : Int) ^ d_6.1.toNat)))), (5, Value.int (iI d_6.1)), (4, Value.int (iI ((uAs S (M 9) b1 (0, a1, M 10, M 11) i).2.1))), (0, Value.ref (ma 0)), (1, Value.int (iI a1)), (2, Value.int (iI b1))]) hx hb dX10_ascending_58 rfl hl (by decide) rfl (fun ls hl => ?_)
          refine lv_iload hx hb dX10_ascending_59 (lv_at hl 1 rfl) ?_
          refine lv_iconst (v := iI 1) hx hb dX10_ascending_61 (by decide) ?_
          refine zi_add hx hb dX10_ascending_62 ?_
          refine lv_istore (lv' := [(4, Value.int (iI (d_6.1 + 1))), (3, Value.int (iI (zor ((uAs S (M 9) b1 (0, a1, M 10, M 11) i).1) (if d_6.2.2 = 0 then 0 else (2 : Int) ^ d_6.1.toNat)))), (5, Value.int (iI d_6.1)), (0, Value.ref (ma 0)), (1, Value.int (iI a1)), (2, Value.int (iI b1))]) hx hb dX10_ascending_63 hl (by decide) rfl (fun ls hl => ?_)
          refine lv_goto (tgt := 5) hx hb dX10_ascending_65 (by decide) ?_
          have hb_7 : (uAs S (M 9) b1 (0, a1, M 10, M 11) (i + 1)).2.1 = d_6.1 + 1 := by rw [uAs, if_pos (show uGo S (M 9) (uAs S (M 9) b1 (0, a1, M 10, M 11) i) = true from decide_eq_true ⟨by omega, by omega, by omega⟩), uSt, ← hed_6]
          have hb_8 : (uAs S (M 9) b1 (0, a1, M 10, M 11) (i + 1)).1 = zor ((uAs S (M 9) b1 (0, a1, M 10, M 11) i).1) (if d_6.2.2 = 0 then 0 else (2 : Int) ^ d_6.1.toNat) := by rw [uAs, if_pos (show uGo S (M 9) (uAs S (M 9) b1 (0, a1, M 10, M 11) i) = true from decide_eq_true ⟨by omega, by omega, by omega⟩), uSt, ← hed_6]
          have hw_9 : [moO ma (updZ (updZ M 10 d_6.2.1) 11 d_6.2.2), arC (ma 8) (τ 0) 120 S] = [moO ma (updZ (updZ M 10 ((uAs S (M 9) b1 (0, a1, M 10, M 11) (i + 1)).2.2.1)) 11 ((uAs S (M 9) b1 (0, a1, M 10, M 11) (i + 1)).2.2.2)), arC (ma 8) (τ 0) 120 S] := by rw [uAs, if_pos (show uGo S (M 9) (uAs S (M 9) b1 (0, a1, M 10, M 11) i) = true from decide_eq_true ⟨by omega, by omega, by omega⟩), uSt, ← hed_6]
          rw [hw_9] at hP hD
          exact ih_5 (by omega) (by (have hst := uSt_ok (S := S) hb1 hok (by omega)); (have hgo : uGo S (M 9) (uAs S (M 9) b1 (0, a1, M 10, M 11) i) = true := decide_eq_true ⟨by omega, by omega, by omega⟩); rw [uAs, if_pos hgo]; (have := hst.2); omega) _ _ _ hP hD hS (lv_eq (lv_sub hl [0, 1, 3, 4, 5] rfl) (by show [(4, Value.int (iI ((uAs S (M 9) b1 (0, a1, M 10, M 11) (i + 1)).2.1))), (3, Value.int (iI ((uAs S (M 9) b1 (0, a1, M 10, M 11) (i + 1)).1))), (0, Value.ref (ma 0)), (1, Value.int (iI a1)), (2, Value.int (iI b1))] = [(4, Value.int (iI (d_6.1 + 1))), (3, Value.int (iI (zor ((uAs S (M 9) b1 (0, a1, M 10, M 11) i).1) (if d_6.2.2 = 0 then 0 else (2 : Int) ^ d_6.1.toNat)))), (0, Value.ref (ma 0)), (1, Value.int (iI a1)), (2, Value.int (iI b1))]; rw [hb_7, hb_8]))
        · skip
          refine lv_aload_n hx hb dX10_ascending_42 rfl (lv_at hl 3 rfl) ?_
          refine va_get (D := g) (ci := 10) (v := Value.int (iI d_6.2.2)) (C := RX10) (T := TX10) (N := 18) hx hb hts in_X10_ascending_X10 hown hK.1 hP 0 (rfl) rfl 11 (by decide) (hts _ (List.mem_of_getElem? (i := 1) rfl) : (Cond.fieldLink RX10 156 "CordSealsModel" "good" "Z").before _ s = true) (fun _ h9 => h9) rfl dX10_ascending_43 ?_
          refine zi_if_eq (tgt := 56) hx hb ⟨by omega, by omega⟩ dX10_ascending_46 (by decide) (fun c_10 => ?_) (fun c_10 => ?_)
          · have _ := c_10
            refine lv_iconst (v := iI 0) hx hb dX10_ascending_56 (by decide) ?_
            exact cv_i (congrArg iI (Eq.symm (show (if d_6.2.2 = 0 then 0 else (2 : Int) ^ d_6.1.toNat) = 0 from by first | rw [if_pos (by omega)] | rw [if_neg (by omega)]))) K
          · have _ := c_10
            refine lv_iconst (v := iI 1) hx hb dX10_ascending_49 (by decide) ?_
            refine lv_iload hx hb dX10_ascending_50 (lv_at hl 0 rfl) ?_
            refine zi_shl1 ((d_6.1).toNat) (by omega) (by omega) hx hb dX10_ascending_52 ?_
            refine lv_goto (tgt := 57) hx hb dX10_ascending_53 (by decide) ?_
            exact cv_i (congrArg iI (Eq.symm (show (if d_6.2.2 = 0 then 0 else (2 : Int) ^ d_6.1.toNat) = ((2 : Int) ^ ((d_6.1).toNat)) from by first | rw [if_pos (by omega)] | rw [if_neg (by omega)]))) K

theorem cd_X10_goes : cd yX10_goes 1 := by decide +kernel
theorem in_X10_goes_X10 : ∀ w ∈ wsX100, w ∈ wsX10_goes := by decide +kernel
set_option maxHeartbeats 1000000 in
set_option maxRecDepth 100000 in
theorem c_X10_goes (l : Launch) (g : va_G) (τ : Nat → ClassId) (ma : Nat → Nat) (M : Nat → Int) (b1 : Bool) (hg1 : 0 ≤ M 11 ∧ M 11 ≤ 1)  : Met l yX10_goes wsX10_goes { frames := 0, cells := 0, slots := 0, locals := 0 } (va_Pc [Value.ref (ma 0), Value.int (iI (zB b1))] (rwW g τ ([moO ma M]))) (rwQ g (fun v w => v = some (Value.int (iI (zB (decide (¬ M 11 = 0 ∧ b1 = true))))) ∧ w = [moO ma (updZ M 12 (M 12 + (if ¬ M 11 = 0 ∧ b1 = false then 1 else 0)))]) (inW ([moO ma M]))) 0 0 (inW ([moO ma M])) := by
  refine rwMet (cc := cX10_goes) (maxL := 2) (ret := (some .boolean)) (lv := [(0, Value.ref (ma 0)), (1, Value.int (iI (zB b1)))]) (by decide) rfl (Nat.le_of_ble_eq_true rfl) rfl ?_
  intro p e s m below meth c hx hb hr hml hts hown hlocks A H hP hD hS hK ls hl
  refine lv_aload_n hx hb dX10_goes_0 rfl (lv_at hl 0 rfl) ?_
  refine lv_dup hx hb dX10_goes_1 rfl ?_
  refine va_get (D := g) (ci := 10) (v := Value.int (iI (M 12))) (C := RX10) (T := TX10) (N := 18) hx hb hts in_X10_goes_X10 hown hK.1 hP 0 (rfl) rfl 12 (by decide) (hts _ (List.mem_of_getElem? (i := 1) rfl) : (Cond.fieldLink RX10 172 "CordSealsModel" "leftOut" "I").before _ s = true) (fun _ h9 => h9) rfl dX10_goes_2 ?_
  refine lv_aload_n hx hb dX10_goes_5 rfl (lv_at hl 0 rfl) ?_
  refine va_get (D := g) (ci := 10) (v := Value.int (iI (M 11))) (C := RX10) (T := TX10) (N := 18) hx hb hts in_X10_goes_X10 hown hK.1 hP 0 (rfl) rfl 11 (by decide) (hts _ (List.mem_of_getElem? (i := 2) rfl) : (Cond.fieldLink RX10 156 "CordSealsModel" "good" "Z").before _ s = true) (fun _ h9 => h9) rfl dX10_goes_6 ?_
  refine zi_if_eq (tgt := 20) hx hb ⟨by omega, by omega⟩ dX10_goes_9 (by decide) (fun c_1 => ?_) (fun c_1 => ?_)
  · have _ := c_1
    refine lv_iconst (v := iI 0) hx hb dX10_goes_20 (by decide) ?_
    refine zi_add hx hb dX10_goes_21 ?_
    refine va_put (D := g) (ci := 10) (v := Value.int (iI ((M 12) + 0))) (ty := .int) (C := RX10) (T := TX10) (N := 18) hx hb hts in_X10_goes_X10 tyX10 tyX10_ok nmX10 hown hK.1 hP hD hS 0 (rfl) rfl 12 (by decide) (hts _ (List.mem_of_getElem? (i := 1) rfl) : (Cond.fieldLink RX10 172 "CordSealsModel" "leftOut" "I").before _ s = true) (fun _ h9 => h9) rfl (by decide +kernel) rfl rfl (Nat.le_of_ble_eq_true rfl) dX10_goes_22 (fun H locs hP hD hS => ?_)
    have hP : va_P g vwCl ([moO ma (updZ M 12 ((M 12) + 0))]) H := hP
    have hD : va_D A ([moO ma (updZ M 12 ((M 12) + 0))]) := hD
    refine lv_aload_n hx hb dX10_goes_25 rfl (lv_at hl 0 rfl) ?_
    refine va_get (D := g) (ci := 10) (v := Value.int (iI (M 11))) (C := RX10) (T := TX10) (N := 18) hx hb hts in_X10_goes_X10 hown hK.1 hP 0 (rfl) rfl 11 (by decide) (hts _ (List.mem_of_getElem? (i := 2) rfl) : (Cond.fieldLink RX10 156 "CordSealsModel" "good" "Z").before _ s = true) (fun _ h9 => h9) rfl dX10_goes_26 ?_
    refine zi_if_eq (tgt := 40) hx hb ⟨by omega, by omega⟩ dX10_goes_29 (by decide) (fun c_2 => ?_) (fun c_2 => ?_)
    · have _ := c_2
      refine lv_iconst (v := iI 0) hx hb dX10_goes_40 (by decide) ?_
      exact rw_zret hx hb hr hlocks hP hS (by first | exact absurd ((show b1 = true from by assumption).symm.trans (show b1 = false from by assumption)) (by decide) | (exfalso; omega) | exact ⟨⟨by first | (rw [decide_eq_true ⟨by omega, by assumption⟩]; rfl) | (rw [decide_eq_false (by rintro ⟨q1, q2⟩; first | omega | exact absurd ((show b1 = true from by assumption).symm.trans (show b1 = false from by assumption)) (by decide))]; rfl), by first | rw [if_pos ⟨by omega, by assumption⟩] | rw [if_neg (by rintro ⟨q1, q2⟩; first | omega | exact absurd ((show b1 = true from by assumption).symm.trans (show b1 = false from by assumption)) (by decide))]⟩, by first | exact ⟨false, rfl⟩ | exact ⟨true, rfl⟩⟩) dX10_goes_41
    · have _ := c_2
      refine lv_iload_n hx hb dX10_goes_32 rfl (lv_at hl 1 rfl) ?_
      refine zb_if_eq (tgt := 40) hx hb dX10_goes_33 (by decide) (fun c_3 => ?_) (fun c_3 => ?_)
      · have _ := c_3
        refine lv_iconst (v := iI 0) hx hb dX10_goes_40 (by decide) ?_
        exact rw_zret hx hb hr hlocks hP hS (by first | exact absurd ((show b1 = true from by assumption).symm.trans (show b1 = false from by assumption)) (by decide) | (exfalso; omega) | exact ⟨⟨by first | (rw [decide_eq_true ⟨by omega, by assumption⟩]; rfl) | (rw [decide_eq_false (by rintro ⟨q1, q2⟩; first | omega | exact absurd ((show b1 = true from by assumption).symm.trans (show b1 = false from by assumption)) (by decide))]; rfl), by first | rw [if_pos ⟨by omega, by assumption⟩] | rw [if_neg (by rintro ⟨q1, q2⟩; first | omega | exact absurd ((show b1 = true from by assumption).symm.trans (show b1 = false from by assumption)) (by decide))]⟩, by first | exact ⟨false, rfl⟩ | exact ⟨true, rfl⟩⟩) dX10_goes_41
      · have _ := c_3
        refine lv_iconst (v := iI 1) hx hb dX10_goes_36 (by decide) ?_
        refine lv_goto (tgt := 41) hx hb dX10_goes_37 (by decide) ?_
        exact rw_zret hx hb hr hlocks hP hS (by first | exact absurd ((show b1 = true from by assumption).symm.trans (show b1 = false from by assumption)) (by decide) | (exfalso; omega) | exact ⟨⟨by first | (rw [decide_eq_true ⟨by omega, by assumption⟩]; rfl) | (rw [decide_eq_false (by rintro ⟨q1, q2⟩; first | omega | exact absurd ((show b1 = true from by assumption).symm.trans (show b1 = false from by assumption)) (by decide))]; rfl), by first | rw [if_pos ⟨by omega, by assumption⟩] | rw [if_neg (by rintro ⟨q1, q2⟩; first | omega | exact absurd ((show b1 = true from by assumption).symm.trans (show b1 = false from by assumption)) (by decide))]⟩, by first | exact ⟨false, rfl⟩ | exact ⟨true, rfl⟩⟩) dX10_goes_41
  · have _ := c_1
    refine lv_iload_n hx hb dX10_goes_12 rfl (lv_at hl 1 rfl) ?_
    refine zb_if_ne (tgt := 20) hx hb dX10_goes_13 (by decide) (fun c_4 => ?_) (fun c_4 => ?_)
    · have _ := c_4
      refine lv_iconst (v := iI 0) hx hb dX10_goes_20 (by decide) ?_
      refine zi_add hx hb dX10_goes_21 ?_
      refine va_put (D := g) (ci := 10) (v := Value.int (iI ((M 12) + 0))) (ty := .int) (C := RX10) (T := TX10) (N := 18) hx hb hts in_X10_goes_X10 tyX10 tyX10_ok nmX10 hown hK.1 hP hD hS 0 (rfl) rfl 12 (by decide) (hts _ (List.mem_of_getElem? (i := 1) rfl) : (Cond.fieldLink RX10 172 "CordSealsModel" "leftOut" "I").before _ s = true) (fun _ h9 => h9) rfl (by decide +kernel) rfl rfl (Nat.le_of_ble_eq_true rfl) dX10_goes_22 (fun H locs hP hD hS => ?_)
      have hP : va_P g vwCl ([moO ma (updZ M 12 ((M 12) + 0))]) H := hP
      have hD : va_D A ([moO ma (updZ M 12 ((M 12) + 0))]) := hD
      refine lv_aload_n hx hb dX10_goes_25 rfl (lv_at hl 0 rfl) ?_
      refine va_get (D := g) (ci := 10) (v := Value.int (iI (M 11))) (C := RX10) (T := TX10) (N := 18) hx hb hts in_X10_goes_X10 hown hK.1 hP 0 (rfl) rfl 11 (by decide) (hts _ (List.mem_of_getElem? (i := 2) rfl) : (Cond.fieldLink RX10 156 "CordSealsModel" "good" "Z").before _ s = true) (fun _ h9 => h9) rfl dX10_goes_26 ?_
      refine zi_if_eq (tgt := 40) hx hb ⟨by omega, by omega⟩ dX10_goes_29 (by decide) (fun c_5 => ?_) (fun c_5 => ?_)
      · have _ := c_5
        refine lv_iconst (v := iI 0) hx hb dX10_goes_40 (by decide) ?_
        exact rw_zret hx hb hr hlocks hP hS (by first | exact absurd ((show b1 = true from by assumption).symm.trans (show b1 = false from by assumption)) (by decide) | (exfalso; omega) | exact ⟨⟨by first | (rw [decide_eq_true ⟨by omega, by assumption⟩]; rfl) | (rw [decide_eq_false (by rintro ⟨q1, q2⟩; first | omega | exact absurd ((show b1 = true from by assumption).symm.trans (show b1 = false from by assumption)) (by decide))]; rfl), by first | rw [if_pos ⟨by omega, by assumption⟩] | rw [if_neg (by rintro ⟨q1, q2⟩; first | omega | exact absurd ((show b1 = true from by assumption).symm.trans (show b1 = false from by assumption)) (by decide))]⟩, by first | exact ⟨false, rfl⟩ | exact ⟨true, rfl⟩⟩) dX10_goes_41
      · have _ := c_5
        refine lv_iload_n hx hb dX10_goes_32 rfl (lv_at hl 1 rfl) ?_
        refine zb_if_eq (tgt := 40) hx hb dX10_goes_33 (by decide) (fun c_6 => ?_) (fun c_6 => ?_)
        · have _ := c_6
          refine lv_iconst (v := iI 0) hx hb dX10_goes_40 (by decide) ?_
          exact rw_zret hx hb hr hlocks hP hS (by first | exact absurd ((show b1 = true from by assumption).symm.trans (show b1 = false from by assumption)) (by decide) | (exfalso; omega) | exact ⟨⟨by first | (rw [decide_eq_true ⟨by omega, by assumption⟩]; rfl) | (rw [decide_eq_false (by rintro ⟨q1, q2⟩; first | omega | exact absurd ((show b1 = true from by assumption).symm.trans (show b1 = false from by assumption)) (by decide))]; rfl), by first | rw [if_pos ⟨by omega, by assumption⟩] | rw [if_neg (by rintro ⟨q1, q2⟩; first | omega | exact absurd ((show b1 = true from by assumption).symm.trans (show b1 = false from by assumption)) (by decide))]⟩, by first | exact ⟨false, rfl⟩ | exact ⟨true, rfl⟩⟩) dX10_goes_41
        · have _ := c_6
          refine lv_iconst (v := iI 1) hx hb dX10_goes_36 (by decide) ?_
          refine lv_goto (tgt := 41) hx hb dX10_goes_37 (by decide) ?_
          exact rw_zret hx hb hr hlocks hP hS (by first | exact absurd ((show b1 = true from by assumption).symm.trans (show b1 = false from by assumption)) (by decide) | (exfalso; omega) | exact ⟨⟨by first | (rw [decide_eq_true ⟨by omega, by assumption⟩]; rfl) | (rw [decide_eq_false (by rintro ⟨q1, q2⟩; first | omega | exact absurd ((show b1 = true from by assumption).symm.trans (show b1 = false from by assumption)) (by decide))]; rfl), by first | rw [if_pos ⟨by omega, by assumption⟩] | rw [if_neg (by rintro ⟨q1, q2⟩; first | omega | exact absurd ((show b1 = true from by assumption).symm.trans (show b1 = false from by assumption)) (by decide))]⟩, by first | exact ⟨false, rfl⟩ | exact ⟨true, rfl⟩⟩) dX10_goes_41
    · have _ := c_4
      refine lv_iconst (v := iI 1) hx hb dX10_goes_16 (by decide) ?_
      refine lv_goto (tgt := 21) hx hb dX10_goes_17 (by decide) ?_
      refine zi_add hx hb dX10_goes_21 ?_
      refine va_put (D := g) (ci := 10) (v := Value.int (iI ((M 12) + 1))) (ty := .int) (C := RX10) (T := TX10) (N := 18) hx hb hts in_X10_goes_X10 tyX10 tyX10_ok nmX10 hown hK.1 hP hD hS 0 (rfl) rfl 12 (by decide) (hts _ (List.mem_of_getElem? (i := 1) rfl) : (Cond.fieldLink RX10 172 "CordSealsModel" "leftOut" "I").before _ s = true) (fun _ h9 => h9) rfl (by decide +kernel) rfl rfl (Nat.le_of_ble_eq_true rfl) dX10_goes_22 (fun H locs hP hD hS => ?_)
      have hP : va_P g vwCl ([moO ma (updZ M 12 ((M 12) + 1))]) H := hP
      have hD : va_D A ([moO ma (updZ M 12 ((M 12) + 1))]) := hD
      refine lv_aload_n hx hb dX10_goes_25 rfl (lv_at hl 0 rfl) ?_
      refine va_get (D := g) (ci := 10) (v := Value.int (iI (M 11))) (C := RX10) (T := TX10) (N := 18) hx hb hts in_X10_goes_X10 hown hK.1 hP 0 (rfl) rfl 11 (by decide) (hts _ (List.mem_of_getElem? (i := 2) rfl) : (Cond.fieldLink RX10 156 "CordSealsModel" "good" "Z").before _ s = true) (fun _ h9 => h9) rfl dX10_goes_26 ?_
      refine zi_if_eq (tgt := 40) hx hb ⟨by omega, by omega⟩ dX10_goes_29 (by decide) (fun c_7 => ?_) (fun c_7 => ?_)
      · have _ := c_7
        refine lv_iconst (v := iI 0) hx hb dX10_goes_40 (by decide) ?_
        exact rw_zret hx hb hr hlocks hP hS (by first | exact absurd ((show b1 = true from by assumption).symm.trans (show b1 = false from by assumption)) (by decide) | (exfalso; omega) | exact ⟨⟨by first | (rw [decide_eq_true ⟨by omega, by assumption⟩]; rfl) | (rw [decide_eq_false (by rintro ⟨q1, q2⟩; first | omega | exact absurd ((show b1 = true from by assumption).symm.trans (show b1 = false from by assumption)) (by decide))]; rfl), by first | rw [if_pos ⟨by omega, by assumption⟩] | rw [if_neg (by rintro ⟨q1, q2⟩; first | omega | exact absurd ((show b1 = true from by assumption).symm.trans (show b1 = false from by assumption)) (by decide))]⟩, by first | exact ⟨false, rfl⟩ | exact ⟨true, rfl⟩⟩) dX10_goes_41
      · have _ := c_7
        refine lv_iload_n hx hb dX10_goes_32 rfl (lv_at hl 1 rfl) ?_
        refine zb_if_eq (tgt := 40) hx hb dX10_goes_33 (by decide) (fun c_8 => ?_) (fun c_8 => ?_)
        · have _ := c_8
          refine lv_iconst (v := iI 0) hx hb dX10_goes_40 (by decide) ?_
          exact rw_zret hx hb hr hlocks hP hS (by first | exact absurd ((show b1 = true from by assumption).symm.trans (show b1 = false from by assumption)) (by decide) | (exfalso; omega) | exact ⟨⟨by first | (rw [decide_eq_true ⟨by omega, by assumption⟩]; rfl) | (rw [decide_eq_false (by rintro ⟨q1, q2⟩; first | omega | exact absurd ((show b1 = true from by assumption).symm.trans (show b1 = false from by assumption)) (by decide))]; rfl), by first | rw [if_pos ⟨by omega, by assumption⟩] | rw [if_neg (by rintro ⟨q1, q2⟩; first | omega | exact absurd ((show b1 = true from by assumption).symm.trans (show b1 = false from by assumption)) (by decide))]⟩, by first | exact ⟨false, rfl⟩ | exact ⟨true, rfl⟩⟩) dX10_goes_41
        · have _ := c_8
          refine lv_iconst (v := iI 1) hx hb dX10_goes_36 (by decide) ?_
          refine lv_goto (tgt := 41) hx hb dX10_goes_37 (by decide) ?_
          exact rw_zret hx hb hr hlocks hP hS (by first | exact absurd ((show b1 = true from by assumption).symm.trans (show b1 = false from by assumption)) (by decide) | (exfalso; omega) | exact ⟨⟨by first | (rw [decide_eq_true ⟨by omega, by assumption⟩]; rfl) | (rw [decide_eq_false (by rintro ⟨q1, q2⟩; first | omega | exact absurd ((show b1 = true from by assumption).symm.trans (show b1 = false from by assumption)) (by decide))]; rfl), by first | rw [if_pos ⟨by omega, by assumption⟩] | rw [if_neg (by rintro ⟨q1, q2⟩; first | omega | exact absurd ((show b1 = true from by assumption).symm.trans (show b1 = false from by assumption)) (by decide))]⟩, by first | exact ⟨false, rfl⟩ | exact ⟨true, rfl⟩⟩) dX10_goes_41

theorem cd_X10_end : cd yX10_end 0 := by decide +kernel
theorem in_X10_end_X10 : ∀ w ∈ wsX100, w ∈ wsX10_end := by decide +kernel
set_option maxHeartbeats 1000000 in
set_option maxRecDepth 100000 in
theorem c_X10_end (l : Launch) (g : va_G) (τ : Nat → ClassId) (ma : Nat → Nat) (M : Nat → Int) (S : Nat → Int) (hSB : SB S) (hPI : PI (M 9) (M 10) (M 11))  : Met l yX10_end wsX10_end { frames := 1, cells := 0, slots := 0, locals := 20 } (va_Pc [Value.ref (ma 0)] (rwW g τ ([moO ma M, arC (ma 8) (τ 0) 120 S]))) (rwQ g (fun v w => v = none ∧ w = [moO ma (updZ M 11 (uEnd S (M 9) (M 10) (M 11))), arC (ma 8) (τ 0) 120 S]) (inW ([moO ma M, arC (ma 8) (τ 0) 120 S]))) 0 0 (inW ([moO ma M, arC (ma 8) (τ 0) 120 S])) := by
  obtain ⟨hpi1, hpi2, hpi3, hpi4, hpi5⟩ := id hPI
  refine rwMet (cc := cX10_end) (maxL := 1) (ret := none) (lv := [(0, Value.ref (ma 0))]) (by decide) rfl (Nat.le_of_ble_eq_true rfl) rfl ?_
  intro p e s m below meth c hx hb hr hml hts hown hlocks A H hP hD hS hK ls hl
  refine lv_aload_n hx hb dX10_end_0 rfl (lv_at hl 0 rfl) ?_
  refine lv_aload_n hx hb dX10_end_1 rfl (lv_at hl 0 rfl) ?_
  refine va_get (D := g) (ci := 10) (v := Value.int (iI (M 11))) (C := RX10) (T := TX10) (N := 18) hx hb hts in_X10_end_X10 hown hK.1 hP 0 (rfl) rfl 11 (by decide) (hts _ (List.mem_of_getElem? (i := 1) rfl) : (Cond.fieldLink RX10 156 "CordSealsModel" "good" "Z").before _ s = true) (fun _ h9 => h9) rfl dX10_end_2 ?_
  refine zi_if_eq (tgt := 32) hx hb ⟨by omega, by omega⟩ dX10_end_5 (by decide) (fun c_1 => ?_) (fun c_1 => ?_)
  · have _ := c_1
    refine lv_iconst (v := iI 0) hx hb dX10_end_32 (by decide) ?_
    refine va_put (D := g) (ci := 10) (v := Value.int (iI 0)) (ty := .boolean) (C := RX10) (T := TX10) (N := 18) hx hb hts in_X10_end_X10 tyX10 tyX10_ok nmX10 hown hK.1 hP hD hS 0 (rfl) rfl 11 (by decide) (hts _ (List.mem_of_getElem? (i := 1) rfl) : (Cond.fieldLink RX10 156 "CordSealsModel" "good" "Z").before _ s = true) (fun _ h9 => h9) rfl (by decide +kernel) (by first | rfl | decide | exact nar_b2 _) (by first | rfl | decide | exact fit_b2 _) (Nat.le_of_ble_eq_true rfl) dX10_end_33 (fun H locs hP hD hS => ?_)
    have hP : va_P g vwCl ([moO ma (updZ M 11 0), arC (ma 8) (τ 0) 120 S]) H := hP
    have hD : va_D A ([moO ma (updZ M 11 0), arC (ma 8) (τ 0) 120 S]) := hD
    exact rw_vret hx hb hr hlocks hP hS (⟨rfl, by unfold uEnd; first | rw [if_pos ⟨by omega, by omega⟩] | rw [if_neg (by omega)]⟩) dX10_end_36
  · have _ := c_1
    refine lv_aload_n hx hb dX10_end_8 rfl (lv_at hl 0 rfl) ?_
    refine va_get (D := g) (ci := 10) (v := Value.int (iI (M 10))) (C := RX10) (T := TX10) (N := 18) hx hb hts in_X10_end_X10 hown hK.1 hP 0 (rfl) rfl 10 (by decide) (hts _ (List.mem_of_getElem? (i := 2) rfl) : (Cond.fieldLink RX10 153 "CordSealsModel" "at" "I").before _ s = true) (fun _ h9 => h9) rfl dX10_end_9 ?_
    refine lv_aload_n hx hb dX10_end_12 rfl (lv_at hl 0 rfl) ?_
    refine va_get (D := g) (ci := 10) (v := Value.int (iI (M 9))) (C := RX10) (T := TX10) (N := 18) hx hb hts in_X10_end_X10 hown hK.1 hP 0 (rfl) rfl 9 (by decide) (hts _ (List.mem_of_getElem? (i := 3) rfl) : (Cond.fieldLink RX10 147 "CordSealsModel" "length" "I").before _ s = true) (fun _ h9 => h9) rfl dX10_end_13 ?_
    refine zi_icmp_eq (tgt := 28) hx hb ⟨by omega, by omega⟩ ⟨by omega, by omega⟩ dX10_end_16 (by decide) (fun c_2 => ?_) (fun c_2 => ?_)
    · have _ := c_2
      refine lv_iconst (v := iI 1) hx hb dX10_end_28 (by decide) ?_
      refine lv_goto (tgt := 33) hx hb dX10_end_29 (by decide) ?_
      refine va_put (D := g) (ci := 10) (v := Value.int (iI 1)) (ty := .boolean) (C := RX10) (T := TX10) (N := 18) hx hb hts in_X10_end_X10 tyX10 tyX10_ok nmX10 hown hK.1 hP hD hS 0 (rfl) rfl 11 (by decide) (hts _ (List.mem_of_getElem? (i := 1) rfl) : (Cond.fieldLink RX10 156 "CordSealsModel" "good" "Z").before _ s = true) (fun _ h9 => h9) rfl (by decide +kernel) (by first | rfl | decide | exact nar_b2 _) (by first | rfl | decide | exact fit_b2 _) (Nat.le_of_ble_eq_true rfl) dX10_end_33 (fun H locs hP hD hS => ?_)
      have hP : va_P g vwCl ([moO ma (updZ M 11 1), arC (ma 8) (τ 0) 120 S]) H := hP
      have hD : va_D A ([moO ma (updZ M 11 1), arC (ma 8) (τ 0) 120 S]) := hD
      exact rw_vret hx hb hr hlocks hP hS (⟨rfl, by unfold uEnd; first | rw [if_pos ⟨by omega, by omega⟩] | rw [if_neg (by omega)]⟩) dX10_end_36
    · have _ := c_2
      refine lv_aload_n hx hb dX10_end_19 rfl (lv_at hl 0 rfl) ?_
      refine ro_V (As := []) (rest := [Value.ref (ma 0)]) (v := some (Value.int (iI (uH S (M 9) (M 10))))) ⟨hx, hb, hml, hown, hts⟩ (c_X10_here l g τ ma M S hSB (by show PI (M 9) (M 10) (M 11); exact ⟨by omega, by omega, by omega, by omega, by omega⟩)) gX10_end_X10_here cd_X10_here rfl rfl ⟨rfl, rfl⟩ ⟨Nat.le_of_ble_eq_true rfl, Nat.le_of_ble_eq_true rfl⟩ hK (cut_P (is := [0, 1]) hP rfl) 0 rfl rfl rfl rfl hl rfl (Nat.le_of_ble_eq_true rfl) dX10_end_20 ⟨Nat.le_of_ble_eq_true rfl, Nat.le_of_ble_eq_true rfl⟩ ?_
      refine tl_some ?_
      have huh := uH_b hSB (M 9) (M 10)
      refine lv_bipush (v := iI 59) hx hb dX10_end_23 (by decide) ?_
      refine zi_icmp_ne (tgt := 32) hx hb ⟨by omega, by omega⟩ ⟨by decide, by decide⟩ dX10_end_25 (by decide) (fun c_3 => ?_) (fun c_3 => ?_)
      · have _ := c_3
        refine lv_iconst (v := iI 0) hx hb dX10_end_32 (by decide) ?_
        refine va_put (D := g) (ci := 10) (v := Value.int (iI 0)) (ty := .boolean) (C := RX10) (T := TX10) (N := 18) hx hb hts in_X10_end_X10 tyX10 tyX10_ok nmX10 hown hK.1 hP hD hS 0 (rfl) rfl 11 (by decide) (hts _ (List.mem_of_getElem? (i := 1) rfl) : (Cond.fieldLink RX10 156 "CordSealsModel" "good" "Z").before _ s = true) (fun _ h9 => h9) rfl (by decide +kernel) (by first | rfl | decide | exact nar_b2 _) (by first | rfl | decide | exact fit_b2 _) (Nat.le_of_ble_eq_true rfl) dX10_end_33 (fun H locs hP hD hS => ?_)
        have hP : va_P g vwCl ([moO ma (updZ M 11 0), arC (ma 8) (τ 0) 120 S]) H := hP
        have hD : va_D A ([moO ma (updZ M 11 0), arC (ma 8) (τ 0) 120 S]) := hD
        exact rw_vret hx hb hr hlocks hP hS (⟨rfl, by unfold uEnd; first | rw [if_pos ⟨by omega, by omega⟩] | rw [if_neg (by omega)]⟩) dX10_end_36
      · have _ := c_3
        refine lv_iconst (v := iI 1) hx hb dX10_end_28 (by decide) ?_
        refine lv_goto (tgt := 33) hx hb dX10_end_29 (by decide) ?_
        refine va_put (D := g) (ci := 10) (v := Value.int (iI 1)) (ty := .boolean) (C := RX10) (T := TX10) (N := 18) hx hb hts in_X10_end_X10 tyX10 tyX10_ok nmX10 hown hK.1 hP hD hS 0 (rfl) rfl 11 (by decide) (hts _ (List.mem_of_getElem? (i := 1) rfl) : (Cond.fieldLink RX10 156 "CordSealsModel" "good" "Z").before _ s = true) (fun _ h9 => h9) rfl (by decide +kernel) (by first | rfl | decide | exact nar_b2 _) (by first | rfl | decide | exact fit_b2 _) (Nat.le_of_ble_eq_true rfl) dX10_end_33 (fun H locs hP hD hS => ?_)
        have hP : va_P g vwCl ([moO ma (updZ M 11 1), arC (ma 8) (τ 0) 120 S]) H := hP
        have hD : va_D A ([moO ma (updZ M 11 1), arC (ma 8) (τ 0) 120 S]) := hD
        exact rw_vret hx hb hr hlocks hP hS (⟨rfl, by unfold uEnd; first | rw [if_pos ⟨by omega, by omega⟩] | rw [if_neg (by omega)]⟩) dX10_end_36
