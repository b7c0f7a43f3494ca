/-! longs divided; the reference's scripts and simulations -/
theorem iL_div {a b : Int} (ha : 0 ≤ a ∧ a < 9223372036854775808) (hb : 0 < b ∧ b < 9223372036854775808) : iL a / iL b = iL (a / b) := Int64.toInt_inj.mp (by
  have h1 : a / b ≤ a := Int.ediv_le_self b ha.1
  have h2 : 0 ≤ a / b := Int.ediv_nonneg ha.1 (by omega)
  rw [Int64.toInt_div, iL_to ⟨by omega, by omega⟩, iL_to ⟨by omega, by omega⟩, iL_to ⟨by omega, by omega⟩, Int.tdiv_eq_ediv_of_nonneg ha.1]
  exact Int.bmod_eq_of_le (by omega) (by omega))
theorem iL_rem {a b : Int} (ha : 0 ≤ a ∧ a < 9223372036854775808) (hb : 0 < b ∧ b < 9223372036854775808) : iL a - iL a / iL b * iL b = iL (a % b) := by
  rw [iL_div ha hb, iL_mul]
  unfold iL
  rw [← Int64.ofInt_sub]
  congr 1
  have := Int.mul_ediv_add_emod a b
  rw [Int.mul_comm (a / b) b]
  omega
theorem iL_sub (a b : Int) : iL a - iL b = iL (a - b) := by
  unfold iL
  rw [Int64.ofInt_sub]
theorem l2i_iL (a : Int) : (iL a).toInt32 = iI a := Int64.toInt32_ofInt
theorem iL_ne {b : Int} (hb : 0 < b ∧ b < 9223372036854775808) : ¬ iL b = 0 := fun h => by
  have h1 := congrArg Int64.toInt h
  rw [iL_to ⟨by omega, by omega⟩] at h1
  have h2 : (0 : Int64).toInt = 0 := rfl
  omega
def lbR (R : Nat → Nat → Int) (a : Nat) : Nat → Nat → Nat → Int
  | 0 => R
  | i + 1 => u2 R 20 (updZ (R 20) a (i : Int))
theorem ud_ud (f : Nat → Int) (a : Nat) (x y : Int) : updZ (updZ f a x) a y = updZ f a y := by
  funext j
  unfold updZ
  split <;> rfl
theorem lb_s (R : Nat → Nat → Int) (a i : Nat) : u2 (lbR R a i) 20 (updZ (lbR R a i 20) a (i : Int)) = lbR R a (i + 1) := by
  cases i with
  | zero => rfl
  | succ i =>
    show u2 (u2 R 20 (updZ (R 20) a (i : Int))) 20 (updZ (u2 R 20 (updZ (R 20) a (i : Int)) 20) a ((i + 1 : Nat) : Int)) = u2 R 20 (updZ (R 20) a ((i + 1 : Nat) : Int))
    rw [u2_sm, u2_at, ud_ud]
theorem SI_lb {R : Nat → Nat → Int} (hI : SI R) {a i : Nat} (ha : a < 2) (hi : i ≤ 100) : SI (lbR R a i) := by
  cases i with
  | zero => exact hI
  | succ i => exact SI_set hI ha ⟨by omega, by omega⟩
theorem lb_k (R : Nat → Nat → Int) (a i : Nat) {k : Nat} (hk : ¬ k = 20) : lbR R a i k = R k := by
  cases i with
  | zero => rfl
  | succ i => exact if_neg hk
def lbP (R : Nat → Nat → Int) (a : Nat) (fk : Int) (i : Nat) : Bool := decide (rFks (lbR R a (i + 1)) (R 10 0).toNat ≤ fk)
def lbN (R : Nat → Nat → Int) (a : Nat) (fk : Int) : Int := if fst (lbP R a fk) 100 < 100 then ((fst (lbP R a fk) 100 : Nat) : Int) else -1
def rsR (R : Nat → Nat → Int) (h : Int) : Nat → Nat → Int := if 0 ≤ h ∧ h ≤ 5 then sR R h.toNat else R
theorem SI_rs {R : Nat → Nat → Int} (hI : SI R) (h : Int) : SI (rsR R h) := by
  unfold rsR
  split
  · exact SI_sR hI (by omega)
  · exact hI
def qA (a : Int × (Nat → Nat → Int)) : Bool × (Nat → Nat → Int) := (decide (0 ≤ a.1), a.2)
def qCmd (R : Nat → Nat → Int) (g : Int) : Bool × (Nat → Nat → Int) :=
  if g / 100000 = 1 then qA (aCrack R (g / 10000 % 10) (g % 10000)) else
  if g / 100000 = 2 then (if g % 100 = 0 then qA (aHang R (g / 1000 % 100) (g / 100 % 10)) else (false, R)) else
  if g / 100000 = 3 then (if g % 1000 = 0 then qA (aCut R (g / 1000 % 100)) else (false, R)) else
  if g / 100000 = 4 then (if g % 10 = 0 then qA (aShelve R (g / 1000 % 100) (g / 100 % 10) (g % 100 / 10)) else (false, R)) else
  if g / 100000 = 5 then (if g % 10 = 0 then qA (aShow R (g / 1000 % 100) (g / 10 % 100)) else (false, R)) else
  if g / 100000 = 6 then (if g % 10000 = 0 then (decide (0 ≤ g / 10000 % 10 ∧ g / 10000 % 10 ≤ 5), rsR R (g / 10000 % 10)) else (false, R)) else
  if g / 100000 = 7 then (if g % 100 = 0 then qA (aSet R (g / 10000 % 10) (g / 100 % 100)) else (false, R)) else
  if g / 100000 = 8 then (decide (g % 100000 < 100 ∧ rFks R (R 10 0).toNat ≤ g % 100), R) else
  if g / 100000 = 9 then (decide (g % 1000 < 10 ∧ (0 ≤ g / 1000 % 100 ∧ g / 1000 % 100 ≤ R 10 0 - 1) ∧ rFk R (g / 1000 % 100).toNat = g % 10), R) else (false, R)
theorem SI_cmd {R : Nat → Nat → Int} (hI : SI R) (g : Int) : SI (qCmd R g).2 := by
  unfold qCmd
  repeat' split
  all_goals first | exact hI | exact SI_aCrack hI _ _ | exact SI_aHang hI _ _ | exact SI_aCut hI _ | exact SI_aShelve hI _ _ _ | exact SI_aShow hI _ _ | exact SI_rs hI _ | exact SI_aSet hI _ _
def qStir (R : Nat → Nat → Int) (r : Int) : Nat → Nat → Int :=
  if r % 8 = 0 ∨ r % 8 = 1 then (aSeal R (r / 8 % 10) (r / 8 / 16 % 2) (r / 8 / 32 % 9 - 1) (r / 8 / 512 % 20) 0).2 else
  if r % 8 = 2 then (aCrack R (r / 8 % 10) (1000 + r / 8 / 16 % 1000)).2 else
  if r % 8 = 3 then (aShow R (r / 8 % 24) (r / 8 / 32 % 16)).2 else
  if r % 8 = 4 then (aHang R (r / 8 % 24) (r / 8 / 32 % 6)).2 else
  if r % 8 = 5 then (aShelve R (r / 8 % 24) (r / 8 / 32 % 6) 0).2 else
  if r % 8 = 6 then (aCut R (r / 8 % 24)).2 else rsR R (r / 8 % 6)
theorem SI_stir {R : Nat → Nat → Int} (hI : SI R) (r : Int) : SI (qStir R r) := by
  unfold qStir
  repeat' split
  all_goals first | exact SI_aSeal hI _ _ _ _ _ | exact SI_aCrack hI _ _ | exact SI_aShow hI _ _ | exact SI_aHang hI _ _ | exact SI_aShelve hI _ _ _ | exact SI_aCut hI _ | exact SI_rs hI _
/-- the steps of a script -/
def qGrp (n : Nat) (z : Int) (i : Nat) : Int := z / 10 ^ (6 * (n - 1 - i)) % 1000000
def qRun (R : Nat → Nat → Int) (n : Nat) (z : Int) : Nat → Nat → Nat → Int
  | 0 => R
  | i + 1 => (qCmd (qRun R n z i) (qGrp n z i)).2
theorem SI_run {R : Nat → Nat → Int} (hI : SI R) (n : Nat) (z : Int) : ∀ i, SI (qRun R n z i)
  | 0 => hI
  | i + 1 => SI_cmd (SI_run hI n z i) _
def qRunP (R : Nat → Nat → Int) (n : Nat) (z : Int) (i : Nat) : Bool := !(qCmd (qRun R n z i) (qGrp n z i)).1
def qRunN (R : Nat → Nat → Int) (n : Nat) (z : Int) : Int := if fst (qRunP R n z) n < n then ((fst (qRunP R n z) n : Nat) : Int) else -1
/-- the numbers of a simulation -/
def qX (x : Int64) : Nat → Int64
  | 0 => x
  | i + 1 => qX x i * 6364136223846793005 + 1442695040888963407
def qT (x : Int64) : Int := ((x.toUInt64 >>> ((33 : Int32).toInt64.toUInt64 &&& Int64.toUInt64 63)).toInt64.toInt32).toInt
def qSim (R : Nat → Nat → Int) (x : Int64) : Nat → Nat → Nat → Int
  | 0 => R
  | i + 1 => qStir (qSim R x i) (qT (qX x (i + 1)))
theorem SI_sim {R : Nat → Nat → Int} (hI : SI R) (x : Int64) : ∀ i, SI (qSim R x i)
  | 0 => hI
  | i + 1 => SI_stir (SI_sim hI x i) _

theorem cd_X10_append : cd yX10_append 1 := by decide +kernel
theorem in_X10_append_X10 : ∀ w ∈ wsX100, w ∈ wsX10_append := by decide +kernel
set_option maxHeartbeats 2000000 in
set_option maxRecDepth 100000 in
theorem c_X10_append (l : Launch) (g : va_G) (τ : Nat → ClassId) (ma : Nat → Nat) (M : Nat → Int) (S : Nat → Int) (h9 : 0 ≤ M 9 ∧ M 9 ≤ 120) (c1 : Int) (rc1 : -2147483648 ≤ c1 ∧ c1 < 2147483648)  : Met l yX10_append wsX10_append { frames := 1, cells := 0, slots := 0, locals := 25 } (va_Pc [Value.ref (ma 0), Value.int (iI c1)] (rwW g τ ([moO ma M, arC (ma 8) (τ 0) 120 S]))) (rwQ g (fun v w => ∃ M2 : Nat → Int, M2 5 = M 5 ∧ ((¬ (0 ≤ c1 ∧ c1 ≤ 255) ∧ v = some (Value.int (iI 0)) ∧ M2 0 = 1 ∧ M2 9 = M 9 ∧ w = [moO ma M2, arC (ma 8) (τ 0) 120 S]) ∨ ((0 ≤ c1 ∧ c1 ≤ 255) ∧ M 9 = 120 ∧ v = some (Value.int (iI 0)) ∧ M2 0 = 2 ∧ M2 9 = M 9 ∧ w = [moO ma M2, arC (ma 8) (τ 0) 120 S]) ∨ ((0 ≤ c1 ∧ c1 ≤ 255) ∧ M 9 < 120 ∧ v = some (Value.int (iI (M 9 + 1))) ∧ M2 0 = 0 ∧ M2 9 = M 9 + 1 ∧ w = [moO ma M2, arC (ma 8) (τ 0) 120 (updZ S (M 9).toNat c1)]))) (inW ([moO ma M, arC (ma 8) (τ 0) 120 S]))) 0 0 (inW ([moO ma M, arC (ma 8) (τ 0) 120 S])) := by
  refine rwMet (cc := cX10_append) (maxL := 2) (ret := (some .int)) (lv := [(0, Value.ref (ma 0)), (1, Value.int (iI c1))]) (by decide) rfl (Nat.le_of_ble_eq_true rfl) rfl ?_
  intro p e s m below meth c hx hb hr hml hts hown hlocks A H hP hD hS hK ls hl
  refine lv_aload_n hx hb dX10_append_0 rfl (lv_at hl 0 rfl) ?_
  refine lv_iload_n hx hb dX10_append_1 rfl (lv_at hl 1 rfl) ?_
  refine lv_i2l (v := (iI c1).toInt64) hx hb dX10_append_2 rfl ?_
  refine cv_l (y := iL c1) (i2l_iL ⟨by omega, by omega⟩) ?_
  refine lv_lconst (v := 0) hx hb dX10_append_3 (by decide) ?_
  refine cv_l (y := iL 0) (by decide) ?_
  refine lv_ldc2 (v := 255) hx hb hown (hts _ (List.mem_of_getElem? (i := 1) rfl)) dX10_append_4 ?_
  refine cv_l (y := iL 255) (by decide) ?_
  refine ro_S (As := [Value.long (iL c1), Value.long (iL 0), Value.long (iL 255)]) (rest := [Value.ref (ma 0)]) (v := some (Value.int (iI (zB (decide (0 ≤ c1 ∧ c1 ≤ 255)))))) ⟨hx, hb, hml, hown, hts⟩ (c_X10_in l g τ c1 0 255 ⟨by omega, by omega⟩ ⟨by omega, by omega⟩ ⟨by omega, by omega⟩) gX10_append_X10_in cd_X10_in rfl ⟨rfl, rfl⟩ ⟨Nat.le_of_ble_eq_true rfl, Nat.le_of_ble_eq_true rfl⟩ hK (fun _ _ h => by cases h) rfl hl rfl (Nat.le_of_ble_eq_true rfl) dX10_append_7 ⟨Nat.le_of_ble_eq_true rfl, Nat.le_of_ble_eq_true rfl⟩ ?_
  refine tl_some ?_
  refine zb_if_ne (tgt := 17) hx hb dX10_append_10 (by decide) (fun c_1 => ?_) (fun c_1 => ?_)
  · have cd_c_1 := of_decide_eq_true c_1
    refine lv_aload_n hx hb dX10_append_17 rfl (lv_at hl 0 rfl) ?_
    refine va_get (D := g) (ci := 10) (v := Value.int (iI (M 9))) (C := RX10) (T := TX10) (N := 18) hx hb hts in_X10_append_X10 hown hK.1 hP 0 (rfl) rfl 9 (by decide) (hts _ (List.mem_of_getElem? (i := 2) rfl) : (Cond.fieldLink RX10 147 "CordSealsModel" "length" "I").before _ s = true) (fun _ h9 => h9) rfl dX10_append_18 ?_
    refine lv_bipush (v := iI 120) hx hb dX10_append_21 (by decide) ?_
    refine zi_icmp_ne (tgt := 30) hx hb ⟨by omega, by omega⟩ ⟨by decide, by decide⟩ dX10_append_23 (by decide) (fun c_2 => ?_) (fun c_2 => ?_)
    · have _ := c_2
      refine lv_iconst (v := iI 0) hx hb dX10_append_30 (by decide) ?_
      refine rw_V (As := [Value.int (iI 0)]) (rest := []) ⟨hx, hb, hml, hown, hts⟩ (c_X10_refused l g τ ma M 0 ⟨by decide, by decide⟩) gX10_append_X10_refused cd_X10_refused rfl rfl ⟨rfl, rfl⟩ ⟨Nat.le_of_ble_eq_true rfl, Nat.le_of_ble_eq_true rfl⟩ hK hP hD hS [0] (rfl) (by decide) 0 rfl rfl rfl rfl hl rfl (Nat.le_of_ble_eq_true rfl) dX10_append_31 ⟨Nat.le_of_ble_eq_true rfl, Nat.le_of_ble_eq_true rfl⟩ (fun v w h => by rw [h.2]; rfl) (fun v w1 H locs hZ hP hD hS => ?_)
      obtain ⟨rfl, rfl⟩ := hZ
      have hP : va_P g vwCl ([moO ma (updZ M 0 0), arC (ma 8) (τ 0) 120 S]) H := hP
      have hD : va_D A ([moO ma (updZ M 0 0), arC (ma 8) (τ 0) 120 S]) := hD
      refine tl_some ?_
      refine cv_i (y := iI 0) (congrArg iI (if_pos rfl)) ?_
      refine zi_if_eq (tgt := 39) hx hb ⟨by decide, by decide⟩ dX10_append_34 (by decide) (fun c_3 => ?_) (fun c_3 => ?_)
      · skip
        refine lv_aload_n hx hb dX10_append_39 rfl (lv_at hl 0 rfl) ?_
        refine va_get (D := g) (ci := 10) (v := Value.ref (ma 8)) (C := RX10) (T := TX10) (N := 18) hx hb hts in_X10_append_X10 hown hK.1 hP 0 (rfl) rfl 8 (by decide) (hts _ (List.mem_of_getElem? (i := 3) rfl) : (Cond.fieldLink RX10 29 "CordSealsModel" "text" "[I").before _ s = true) (fun _ h9 => h9) rfl dX10_append_40 ?_
        refine lv_aload_n hx hb dX10_append_43 rfl (lv_at hl 0 rfl) ?_
        refine va_get (D := g) (ci := 10) (v := Value.int (iI (M 9))) (C := RX10) (T := TX10) (N := 18) hx hb hts in_X10_append_X10 hown hK.1 hP 0 (rfl) rfl 9 (by decide) (hts _ (List.mem_of_getElem? (i := 2) rfl) : (Cond.fieldLink RX10 147 "CordSealsModel" "length" "I").before _ s = true) (fun _ h9 => h9) rfl dX10_append_44 ?_
        refine lv_iload_n hx hb dX10_append_47 rfl (lv_at hl 1 rfl) ?_
        refine zi_ast hx hb hK hP hD hS 1 (f := S) (rfl) ((M 9).toNat) (by omega) (by omega) (by decide) dX10_append_48 (wo := [moO ma (updZ M 0 0), arC (ma 8) (τ 0) 120 (updZ S ((M 9).toNat) c1)]) rfl (fun H locs hP hD hS => ?_)
        refine lv_aload_n hx hb dX10_append_49 rfl (lv_at hl 0 rfl) ?_
        refine lv_dup hx hb dX10_append_50 rfl ?_
        refine va_get (D := g) (ci := 10) (v := Value.int (iI (M 9))) (C := RX10) (T := TX10) (N := 18) hx hb hts in_X10_append_X10 hown hK.1 hP 0 (rfl) rfl 9 (by decide) (hts _ (List.mem_of_getElem? (i := 2) rfl) : (Cond.fieldLink RX10 147 "CordSealsModel" "length" "I").before _ s = true) (fun _ h9 => h9) rfl dX10_append_51 ?_
        refine lv_iconst (v := iI 1) hx hb dX10_append_54 (by decide) ?_
        refine zi_add hx hb dX10_append_55 ?_
        refine va_put (D := g) (ci := 10) (v := Value.int (iI ((M 9) + 1))) (ty := .int) (C := RX10) (T := TX10) (N := 18) hx hb hts in_X10_append_X10 tyX10 tyX10_ok nmX10 hown hK.1 hP hD hS 0 (rfl) rfl 9 (by decide) (hts _ (List.mem_of_getElem? (i := 2) rfl) : (Cond.fieldLink RX10 147 "CordSealsModel" "length" "I").before _ s = true) (fun _ h9 => h9) rfl (by decide +kernel) rfl rfl (Nat.le_of_ble_eq_true rfl) dX10_append_56 (fun H locs hP hD hS => ?_)
        have hP : va_P g vwCl ([moO ma (updZ (updZ M 0 0) 9 ((M 9) + 1)), arC (ma 8) (τ 0) 120 (updZ S ((M 9).toNat) c1)]) H := hP
        have hD : va_D A ([moO ma (updZ (updZ M 0 0) 9 ((M 9) + 1)), arC (ma 8) (τ 0) 120 (updZ S ((M 9).toNat) c1)]) := hD
        refine lv_aload_n hx hb dX10_append_59 rfl (lv_at hl 0 rfl) ?_
        refine va_get (D := g) (ci := 10) (v := Value.int (iI ((M 9) + 1))) (C := RX10) (T := TX10) (N := 18) hx hb hts in_X10_append_X10 hown hK.1 hP 0 (rfl) rfl 9 (by decide) (hts _ (List.mem_of_getElem? (i := 2) rfl) : (Cond.fieldLink RX10 147 "CordSealsModel" "length" "I").before _ s = true) (fun _ h9 => h9) rfl dX10_append_60 ?_
        exact rw_iret hx hb hr hlocks hP hS (⟨(updZ (updZ M 0 0) 9 ((M 9) + 1)), rfl, Or.inr (Or.inr ⟨by omega, by omega, rfl, rfl, rfl, rfl⟩)⟩) dX10_append_63
      · exact absurd c_3 (by decide)
    · have _ := c_2
      refine lv_iconst (v := iI 2) hx hb dX10_append_26 (by decide) ?_
      refine lv_goto (tgt := 31) hx hb dX10_append_27 (by decide) ?_
      refine rw_V (As := [Value.int (iI 2)]) (rest := []) ⟨hx, hb, hml, hown, hts⟩ (c_X10_refused l g τ ma M 2 ⟨by decide, by decide⟩) gX10_append_X10_refused cd_X10_refused rfl rfl ⟨rfl, rfl⟩ ⟨Nat.le_of_ble_eq_true rfl, Nat.le_of_ble_eq_true rfl⟩ hK hP hD hS [0] (rfl) (by decide) 0 rfl rfl rfl rfl hl rfl (Nat.le_of_ble_eq_true rfl) dX10_append_31 ⟨Nat.le_of_ble_eq_true rfl, Nat.le_of_ble_eq_true rfl⟩ (fun v w h => by rw [h.2]; rfl) (fun v w1 H locs hZ hP hD hS => ?_)
      obtain ⟨rfl, rfl⟩ := hZ
      have hP : va_P g vwCl ([moO ma (updZ M 0 2), arC (ma 8) (τ 0) 120 S]) H := hP
      have hD : va_D A ([moO ma (updZ M 0 2), arC (ma 8) (τ 0) 120 S]) := hD
      refine tl_some ?_
      refine cv_i (y := iI 1) (congrArg iI (if_neg (by decide))) ?_
      refine zi_if_eq (tgt := 39) hx hb ⟨by decide, by decide⟩ dX10_append_34 (by decide) (fun c_4 => ?_) (fun c_4 => ?_)
      · exact absurd c_4 (by decide)
      refine lv_iconst (v := iI 0) hx hb dX10_append_37 (by decide) ?_
      exact rw_iret hx hb hr hlocks hP hS (by first | exact ⟨(updZ M 0 2), rfl, Or.inl ⟨by omega, rfl, rfl, rfl, rfl⟩⟩ | exact ⟨(updZ M 0 2), rfl, Or.inr (Or.inl ⟨by omega, by omega, rfl, rfl, rfl, rfl⟩)⟩) dX10_append_38
  · have cd_c_1 := of_decide_eq_false c_1
    refine lv_iconst (v := iI 1) hx hb dX10_append_13 (by decide) ?_
    refine lv_goto (tgt := 31) hx hb dX10_append_14 (by decide) ?_
    refine rw_V (As := [Value.int (iI 1)]) (rest := []) ⟨hx, hb, hml, hown, hts⟩ (c_X10_refused l g τ ma M 1 ⟨by decide, by decide⟩) gX10_append_X10_refused cd_X10_refused rfl rfl ⟨rfl, rfl⟩ ⟨Nat.le_of_ble_eq_true rfl, Nat.le_of_ble_eq_true rfl⟩ hK hP hD hS [0] (rfl) (by decide) 0 rfl rfl rfl rfl hl rfl (Nat.le_of_ble_eq_true rfl) dX10_append_31 ⟨Nat.le_of_ble_eq_true rfl, Nat.le_of_ble_eq_true rfl⟩ (fun v w h => by rw [h.2]; rfl) (fun v w1 H locs hZ hP hD hS => ?_)
    obtain ⟨rfl, rfl⟩ := hZ
    have hP : va_P g vwCl ([moO ma (updZ M 0 1), arC (ma 8) (τ 0) 120 S]) H := hP
    have hD : va_D A ([moO ma (updZ M 0 1), arC (ma 8) (τ 0) 120 S]) := hD
    refine tl_some ?_
    refine cv_i (y := iI 1) (congrArg iI (if_neg (by decide))) ?_
    refine zi_if_eq (tgt := 39) hx hb ⟨by decide, by decide⟩ dX10_append_34 (by decide) (fun c_5 => ?_) (fun c_5 => ?_)
    · exact absurd c_5 (by decide)
    refine lv_iconst (v := iI 0) hx hb dX10_append_37 (by decide) ?_
    exact rw_iret hx hb hr hlocks hP hS (by first | exact ⟨(updZ M 0 1), rfl, Or.inl ⟨by omega, rfl, rfl, rfl, rfl⟩⟩ | exact ⟨(updZ M 0 1), rfl, Or.inr (Or.inl ⟨by omega, by omega, rfl, rfl, rfl, rfl⟩)⟩) dX10_append_38

theorem cd_X10_clearText : cd yX10_clearText 0 := by decide +kernel
theorem in_X10_clearText_X10 : ∀ w ∈ wsX100, w ∈ wsX10_clearText := by decide +kernel
set_option maxHeartbeats 1000000 in
set_option maxRecDepth 100000 in
theorem c_X10_clearText (l : Launch) (g : va_G) (τ : Nat → ClassId) (ma : Nat → Nat) (M : Nat → Int)  : Met l yX10_clearText wsX10_clearText { frames := 0, cells := 0, slots := 0, locals := 0 } (va_Pc [Value.ref (ma 0)] (rwW g τ ([moO ma M]))) (rwQ g (fun v w => ∃ M2 : Nat → Int, M2 0 = 0 ∧ M2 5 = M 5 ∧ M2 9 = 0 ∧ v = some (Value.int (iI (M 9))) ∧ w = [moO ma M2]) (inW ([moO ma M]))) 0 0 (inW ([moO ma M])) := by
  refine rwMet (cc := cX10_clearText) (maxL := 2) (ret := (some .int)) (lv := [(0, Value.ref (ma 0))]) (by decide) rfl (Nat.le_of_ble_eq_true rfl) rfl ?_
  intro p e s m below meth c hx hb hr hml hts hown hlocks A H hP hD hS hK ls hl
  refine lv_aload_n hx hb dX10_clearText_0 rfl (lv_at hl 0 rfl) ?_
  refine lv_iconst (v := iI 0) hx hb dX10_clearText_1 (by decide) ?_
  refine va_put (D := g) (ci := 10) (v := Value.int (iI 0)) (ty := .int) (C := RX10) (T := TX10) (N := 18) hx hb hts in_X10_clearText_X10 tyX10 tyX10_ok nmX10 hown hK.1 hP hD hS 0 (rfl) rfl 0 (by decide) (hts _ (List.mem_of_getElem? (i := 1) rfl) : (Cond.fieldLink RX10 39 "CordSealsModel" "refusal" "I").before _ s = true) (fun _ h9 => h9) rfl (by decide +kernel) rfl rfl (Nat.le_of_ble_eq_true rfl) dX10_clearText_2 (fun H locs hP hD hS => ?_)
  have hP : va_P g vwCl ([moO ma (updZ M 0 0)]) H := hP
  have hD : va_D A ([moO ma (updZ M 0 0)]) := hD
  refine lv_aload_n hx hb dX10_clearText_5 rfl (lv_at hl 0 rfl) ?_
  refine va_get (D := g) (ci := 10) (v := Value.int (iI (M 9))) (C := RX10) (T := TX10) (N := 18) hx hb hts in_X10_clearText_X10 hown hK.1 hP 0 (rfl) rfl 9 (by decide) (hts _ (List.mem_of_getElem? (i := 2) rfl) : (Cond.fieldLink RX10 147 "CordSealsModel" "length" "I").before _ s = true) (fun _ h9 => h9) rfl dX10_clearText_6 ?_
  refine lv_istore_n (lv' := [(1, Value.int (iI (M 9))), (0, Value.ref (ma 0))]) hx hb dX10_clearText_9 rfl hl (by decide) rfl (fun ls hl => ?_)
  refine lv_aload_n hx hb dX10_clearText_10 rfl (lv_at hl 1 rfl) ?_
  refine lv_iconst (v := iI 0) hx hb dX10_clearText_11 (by decide) ?_
  refine va_put (D := g) (ci := 10) (v := Value.int (iI 0)) (ty := .int) (C := RX10) (T := TX10) (N := 18) hx hb hts in_X10_clearText_X10 tyX10 tyX10_ok nmX10 hown hK.1 hP hD hS 0 (rfl) rfl 9 (by decide) (hts _ (List.mem_of_getElem? (i := 2) rfl) : (Cond.fieldLink RX10 147 "CordSealsModel" "length" "I").before _ s = true) (fun _ h9 => h9) rfl (by decide +kernel) rfl rfl (Nat.le_of_ble_eq_true rfl) dX10_clearText_12 (fun H locs hP hD hS => ?_)
  have hP : va_P g vwCl ([moO ma (updZ (updZ M 0 0) 9 0)]) H := hP
  have hD : va_D A ([moO ma (updZ (updZ M 0 0) 9 0)]) := hD
  refine lv_iload_n hx hb dX10_clearText_15 rfl (lv_at hl 0 rfl) ?_
  exact rw_iret hx hb hr hlocks hP hS (⟨(updZ (updZ M 0 0) 9 0), rfl, rfl, rfl, rfl, rfl⟩) dX10_clearText_16

theorem cd_X10_ifCracked : cd yX10_ifCracked 2 := by decide +kernel
theorem in_X10_ifCracked_X10 : ∀ w ∈ wsX100, w ∈ wsX10_ifCracked := by decide +kernel
set_option maxHeartbeats 4000000 in
set_option maxRecDepth 100000 in
theorem c_X10_ifCracked (l : Launch) (g : va_G) (τ : Nat → ClassId) (ma : Nat → Nat) (M : Nat → Int) (R : Nat → Nat → Int) (hI : SI R) (T : Nat → Int) (z1 : Int) (rz1 : -2147483648 ≤ z1 ∧ z1 < 2147483648) (y1 : Int) (ry1 : -2147483648 ≤ y1 ∧ y1 < 2147483648)  : Met l yX10_ifCracked wsX10_ifCracked { frames := 8, cells := 0, slots := 0, locals := 189 } (va_Pc [Value.ref (ma 0), Value.int (iI z1), Value.int (iI y1)] (rwW g τ ([moO ma M, arC (ma 1) (τ 0) 291 (flR R), arC (ma 2) (τ 0) 291 T]))) (rwQ g (fun v w => ∃ (M2 T2 : Nat → Int), M2 5 = M 5 ∧ M2 9 = M 9 ∧ w = [moO ma M2, arC (ma 1) (τ 0) 291 (flR R), arC (ma 2) (τ 0) 291 T2] ∧ (((aCrack R z1 y1).1 < 0 ∧ v = some (Value.int (iI 0)) ∧ M2 0 = cd3 (aCrack R z1 y1).1 1 2 3) ∨ (0 ≤ (aCrack R z1 y1).1 ∧ v = some (Value.int (iI (rFks (aCrack R z1 y1).2 (R 10 0).toNat - rFks R (R 10 0).toNat))) ∧ M2 0 = 0))) (inW ([moO ma M, arC (ma 1) (τ 0) 291 (flR R), arC (ma 2) (τ 0) 291 T]))) 0 0 (inW ([moO ma M, arC (ma 1) (τ 0) 291 (flR R), arC (ma 2) (τ 0) 291 T])) := by
  have hB := hI.hB
  have hr0 := hI.r
  have hd0 := hI.d
  have hs0 := hI.s
  refine rwMet (cc := cX10_ifCracked) (maxL := 3) (ret := (some .int)) (lv := [(0, Value.ref (ma 0)), (1, Value.int (iI z1)), (2, Value.int (iI y1))]) (by decide) rfl (Nat.le_of_ble_eq_true rfl) rfl ?_
  intro p e s m below meth c hx hb hr hml hts hown hlocks A H hP hD hS hK ls hl
  refine lv_aload_n hx hb dX10_ifCracked_0 rfl (lv_at hl 0 rfl) ?_
  refine lv_aload_n hx hb dX10_ifCracked_1 rfl (lv_at hl 0 rfl) ?_
  refine va_get (D := g) (ci := 10) (v := Value.ref (ma 1)) (C := RX10) (T := TX10) (N := 18) hx hb hts in_X10_ifCracked_X10 hown hK.1 hP 0 (rfl) rfl 1 (by decide) (hts _ (List.mem_of_getElem? (i := 1) rfl) : (Cond.fieldLink RX10 7 "CordSealsModel" "now" "[I").before _ s = true) (fun _ h9 => h9) rfl dX10_ifCracked_2 ?_
  refine lv_iload_n hx hb dX10_ifCracked_5 rfl (lv_at hl 1 rfl) ?_
  refine ro_S (As := [Value.ref (ma 1), Value.int (iI z1)]) (rest := [Value.ref (ma 0)]) (v := some (Value.int (iI (zB (decide (0 ≤ z1 ∧ z1 ≤ R 4 0 - 1)))))) ⟨hx, hb, hml, hown, hts⟩ (c_X10_hasDie l g τ (ma 1) R hI z1 ⟨by omega, by omega⟩) gX10_ifCracked_X10_hasDie cd_X10_hasDie rfl ⟨rfl, rfl⟩ ⟨Nat.le_of_ble_eq_true rfl, Nat.le_of_ble_eq_true rfl⟩ hK (cut_P (is := [1]) hP rfl) rfl hl rfl (Nat.le_of_ble_eq_true rfl) dX10_ifCracked_6 ⟨Nat.le_of_ble_eq_true rfl, Nat.le_of_ble_eq_true rfl⟩ ?_
  refine tl_some ?_
  refine zb_if_ne (tgt := 16) hx hb dX10_ifCracked_9 (by decide) (fun c_1 => ?_) (fun c_1 => ?_)
  · have cd_c_1 := of_decide_eq_true c_1
    refine lv_iload_n hx hb dX10_ifCracked_16 rfl (lv_at hl 2 rfl) ?_
    refine ro_S (As := [Value.int (iI y1)]) (rest := [Value.ref (ma 0)]) (v := some (Value.int (iI (zB (decide (1000 ≤ y1 ∧ y1 ≤ 1999)))))) ⟨hx, hb, hml, hown, hts⟩ (c_X10_isYear l g τ y1 ⟨by omega, by omega⟩) gX10_ifCracked_X10_isYear cd_X10_isYear rfl ⟨rfl, rfl⟩ ⟨Nat.le_of_ble_eq_true rfl, Nat.le_of_ble_eq_true rfl⟩ hK (fun _ _ h => by cases h) rfl hl rfl (Nat.le_of_ble_eq_true rfl) dX10_ifCracked_17 ⟨Nat.le_of_ble_eq_true rfl, Nat.le_of_ble_eq_true rfl⟩ ?_
    refine tl_some ?_
    refine zb_if_ne (tgt := 27) hx hb dX10_ifCracked_20 (by decide) (fun c_2 => ?_) (fun c_2 => ?_)
    · have cd_c_2 := of_decide_eq_true c_2
      obtain ⟨d1, rfl⟩ := Int.eq_ofNat_of_zero_le (show 0 ≤ z1 by omega)
      have hdl := hI.ds d1 (by omega)
      refine lv_aload_n hx hb dX10_ifCracked_27 rfl (lv_at hl 0 rfl) ?_
      refine va_get (D := g) (ci := 10) (v := Value.ref (ma 1)) (C := RX10) (T := TX10) (N := 18) hx hb hts in_X10_ifCracked_X10 hown hK.1 hP 0 (rfl) rfl 1 (by decide) (hts _ (List.mem_of_getElem? (i := 1) rfl) : (Cond.fieldLink RX10 7 "CordSealsModel" "now" "[I").before _ s = true) (fun _ h9 => h9) rfl dX10_ifCracked_28 ?_
      refine lv_iload_n hx hb dX10_ifCracked_31 rfl (lv_at hl 1 rfl) ?_
      refine lv_iload_n hx hb dX10_ifCracked_32 rfl (lv_at hl 2 rfl) ?_
      refine ro_S (As := [Value.ref (ma 1), Value.int (iI (d1 : Int)), Value.int (iI y1)]) (rest := [Value.ref (ma 0)]) (v := some (Value.int (iI (zB (decide (R 8 d1 < 4) && !dIn R d1 (R 8 d1).toNat y1))))) ⟨hx, hb, hml, hown, hts⟩ (e_X10_canCrack l g τ (ma 1) R hI d1 (by omega) y1 ⟨by omega, by omega⟩) gX10_ifCracked_X10_canCrack cd_X10_canCrack rfl ⟨rfl, rfl⟩ ⟨Nat.le_of_ble_eq_true rfl, Nat.le_of_ble_eq_true rfl⟩ hK (cut_P (is := [1]) hP rfl) rfl hl rfl (Nat.le_of_ble_eq_true rfl) dX10_ifCracked_33 ⟨Nat.le_of_ble_eq_true rfl, Nat.le_of_ble_eq_true rfl⟩ ?_
      refine tl_some ?_
      refine zb_if_ne (tgt := 43) hx hb dX10_ifCracked_36 (by decide) (fun c_3 => ?_) (fun c_3 => ?_)
      · have _ := c_3
        have hcc := cP_t c_3
        refine lv_iconst (v := iI 0) hx hb dX10_ifCracked_43 (by decide) ?_
        refine rw_V (As := [Value.int (iI 0)]) (rest := []) ⟨hx, hb, hml, hown, hts⟩ (c_X10_refused l g τ ma M 0 ⟨by decide, by decide⟩) gX10_ifCracked_X10_refused cd_X10_refused rfl rfl ⟨rfl, rfl⟩ ⟨Nat.le_of_ble_eq_true rfl, Nat.le_of_ble_eq_true rfl⟩ hK hP hD hS [0] (rfl) (by decide) 0 rfl rfl rfl rfl hl rfl (Nat.le_of_ble_eq_true rfl) dX10_ifCracked_44 ⟨Nat.le_of_ble_eq_true rfl, Nat.le_of_ble_eq_true rfl⟩ (fun v w h => by rw [h.2]; rfl) (fun v w1 H locs hZ hP hD hS => ?_)
        obtain ⟨rfl, rfl⟩ := hZ
        have hP : va_P g vwCl ([moO ma (updZ M 0 0), arC (ma 1) (τ 0) 291 (flR R), arC (ma 2) (τ 0) 291 T]) H := hP
        have hD : va_D A ([moO ma (updZ M 0 0), arC (ma 1) (τ 0) 291 (flR R), arC (ma 2) (τ 0) 291 T]) := hD
        refine tl_some ?_
        refine cv_i (y := iI 0) (congrArg iI (if_pos rfl)) ?_
        refine zi_if_eq (tgt := 52) hx hb ⟨by decide, by decide⟩ dX10_ifCracked_47 (by decide) (fun c_4 => ?_) (fun c_4 => ?_)
        · skip
          refine lv_aload_n hx hb dX10_ifCracked_52 rfl (lv_at hl 0 rfl) ?_
          refine va_get (D := g) (ci := 10) (v := Value.ref (ma 1)) (C := RX10) (T := TX10) (N := 18) hx hb hts in_X10_ifCracked_X10 hown hK.1 hP 0 (rfl) rfl 1 (by decide) (hts _ (List.mem_of_getElem? (i := 1) rfl) : (Cond.fieldLink RX10 7 "CordSealsModel" "now" "[I").before _ s = true) (fun _ h9 => h9) rfl dX10_ifCracked_53 ?_
          refine lv_aload_n hx hb dX10_ifCracked_56 rfl (lv_at hl 0 rfl) ?_
          refine va_get (D := g) (ci := 10) (v := Value.ref (ma 2)) (C := RX10) (T := TX10) (N := 18) hx hb hts in_X10_ifCracked_X10 hown hK.1 hP 0 (rfl) rfl 2 (by decide) (hts _ (List.mem_of_getElem? (i := 2) rfl) : (Cond.fieldLink RX10 13 "CordSealsModel" "trial" "[I").before _ s = true) (fun _ h9 => h9) rfl dX10_ifCracked_57 ?_
          refine rw_S (As := [Value.ref (ma 1), Value.ref (ma 2)]) (rest := []) ⟨hx, hb, hml, hown, hts⟩ (c_X10_copy l g τ (ma 1) (ma 2) R T) gX10_ifCracked_X10_copy cd_X10_copy rfl ⟨rfl, rfl⟩ ⟨Nat.le_of_ble_eq_true rfl, Nat.le_of_ble_eq_true rfl⟩ hK hP hD hS [1, 2] (rfl) (by decide) rfl hl rfl (Nat.le_of_ble_eq_true rfl) dX10_ifCracked_60 ⟨Nat.le_of_ble_eq_true rfl, Nat.le_of_ble_eq_true rfl⟩ (fun v w h => by rw [h.2]; rfl) (fun v w1 H locs hZ hP hD hS => ?_)
          obtain ⟨rfl, rfl⟩ := hZ
          have hP : va_P g vwCl ([moO ma (updZ M 0 0), arC (ma 1) (τ 0) 291 (flR R), arC (ma 2) (τ 0) 291 (flR R)]) H := hP
          have hD : va_D A ([moO ma (updZ M 0 0), arC (ma 1) (τ 0) 291 (flR R), arC (ma 2) (τ 0) 291 (flR R)]) := hD
          refine tl_none ?_
          refine lv_aload_n hx hb dX10_ifCracked_63 rfl (lv_at hl 0 rfl) ?_
          refine va_get (D := g) (ci := 10) (v := Value.ref (ma 2)) (C := RX10) (T := TX10) (N := 18) hx hb hts in_X10_ifCracked_X10 hown hK.1 hP 0 (rfl) rfl 2 (by decide) (hts _ (List.mem_of_getElem? (i := 2) rfl) : (Cond.fieldLink RX10 13 "CordSealsModel" "trial" "[I").before _ s = true) (fun _ h9 => h9) rfl dX10_ifCracked_64 ?_
          refine lv_iload_n hx hb dX10_ifCracked_67 rfl (lv_at hl 1 rfl) ?_
          refine lv_iload_n hx hb dX10_ifCracked_68 rfl (lv_at hl 2 rfl) ?_
          refine rw_S (As := [Value.ref (ma 2), Value.int (iI (d1 : Int)), Value.int (iI y1)]) (rest := []) ⟨hx, hb, hml, hown, hts⟩ (c_X10_goCrack l g τ (ma 2) R hI d1 (by omega) y1 ⟨by omega, by omega⟩ (by omega)) gX10_ifCracked_X10_goCrack cd_X10_goCrack rfl ⟨rfl, rfl⟩ ⟨Nat.le_of_ble_eq_true rfl, Nat.le_of_ble_eq_true rfl⟩ hK hP hD hS [2] (rfl) (by decide) rfl hl rfl (Nat.le_of_ble_eq_true rfl) dX10_ifCracked_69 ⟨Nat.le_of_ble_eq_true rfl, Nat.le_of_ble_eq_true rfl⟩ (fun v w h => by rw [h.2]; exact f_fl _ _ _ _) (fun v w1 H locs hZ hP hD hS => ?_)
          obtain ⟨rfl, rfl⟩ := hZ
          have hP : va_P g vwCl ([moO ma (updZ M 0 0), arC (ma 1) (τ 0) 291 (flR R), arC (ma 2) (τ 0) 291 (flR (u2 (u2 R 9 (updZ (R 9) (d1 * 4 + (R 8 d1).toNat) y1)) 8 (updZ (R 8) d1 (R 8 d1 + 1))))]) H := hP
          have hD : va_D A ([moO ma (updZ M 0 0), arC (ma 1) (τ 0) 291 (flR R), arC (ma 2) (τ 0) 291 (flR (u2 (u2 R 9 (updZ (R 9) (d1 * 4 + (R 8 d1).toNat) y1)) 8 (updZ (R 8) d1 (R 8 d1 + 1))))]) := hD
          refine tl_some ?_
          refine lv_pop hx hb dX10_ifCracked_72 rfl ?_
          refine lv_aload_n hx hb dX10_ifCracked_73 rfl (lv_at hl 0 rfl) ?_
          refine lv_aload_n hx hb dX10_ifCracked_74 rfl (lv_at hl 0 rfl) ?_
          refine va_get (D := g) (ci := 10) (v := Value.ref (ma 2)) (C := RX10) (T := TX10) (N := 18) hx hb hts in_X10_ifCracked_X10 hown hK.1 hP 0 (rfl) rfl 2 (by decide) (hts _ (List.mem_of_getElem? (i := 2) rfl) : (Cond.fieldLink RX10 13 "CordSealsModel" "trial" "[I").before _ s = true) (fun _ h9 => h9) rfl dX10_ifCracked_75 ?_
          refine rw_V (As := [Value.ref (ma 2)]) (rest := []) ⟨hx, hb, hml, hown, hts⟩ (c_X10_fakes l g τ ma (updZ M 0 0) (ma 2) (u2 (u2 R 9 (updZ (R 9) (d1 * 4 + (R 8 d1).toNat) y1)) 8 (updZ (R 8) d1 (R 8 d1 + 1))) (SI_crack (d := d1) (y := y1) hI (by omega) ⟨by omega, by omega⟩ (by omega)) ) gX10_ifCracked_X10_fakes cd_X10_fakes rfl rfl ⟨rfl, rfl⟩ ⟨Nat.le_of_ble_eq_true rfl, Nat.le_of_ble_eq_true rfl⟩ hK hP hD hS [0, 2] (rfl) (by decide) 0 rfl rfl rfl rfl hl rfl (Nat.le_of_ble_eq_true rfl) dX10_ifCracked_78 ⟨Nat.le_of_ble_eq_true rfl, Nat.le_of_ble_eq_true rfl⟩ (fun v w h => by obtain ⟨-, M9, -, rfl⟩ := h; rfl) (fun v w1 H locs hZ hP hD hS => ?_)
          obtain ⟨rfl, M_5, hgM_5, rfl⟩ := hZ
          have hP : va_P g vwCl ([moO ma M_5, arC (ma 1) (τ 0) 291 (flR R), arC (ma 2) (τ 0) 291 (flR (u2 (u2 R 9 (updZ (R 9) (d1 * 4 + (R 8 d1).toNat) y1)) 8 (updZ (R 8) d1 (R 8 d1 + 1))))]) H := hP
          have hD : va_D A ([moO ma M_5, arC (ma 1) (τ 0) 291 (flR R), arC (ma 2) (τ 0) 291 (flR (u2 (u2 R 9 (updZ (R 9) (d1 * 4 + (R 8 d1).toNat) y1)) 8 (updZ (R 8) d1 (R 8 d1 + 1))))]) := hD
          have hfM_5_0 : M_5 0 = 0 := hgM_5 0 (by decide)
          have hfM_5_5 : M_5 5 = M 5 := hgM_5 5 (by decide)
          have hfM_5_9 : M_5 9 = M 9 := hgM_5 9 (by decide)
          have hfM_5_10 : M_5 10 = M 10 := hgM_5 10 (by decide)
          have hfM_5_11 : M_5 11 = M 11 := hgM_5 11 (by decide)
          have hfM_5_12 : M_5 12 = M 12 := hgM_5 12 (by decide)
          have := cnt_le (fun s => decide (0 < rFk (u2 (u2 R 9 (updZ (R 9) (d1 * 4 + (R 8 d1).toNat) y1)) 8 (updZ (R 8) d1 (R 8 d1 + 1))) s)) ((u2 (u2 R 9 (updZ (R 9) (d1 * 4 + (R 8 d1).toNat) y1)) 8 (updZ (R 8) d1 (R 8 d1 + 1))) 10 0).toNat
          have hfks : rFks (u2 (u2 R 9 (updZ (R 9) (d1 * 4 + (R 8 d1).toNat) y1)) 8 (updZ (R 8) d1 (R 8 d1 + 1))) ((u2 (u2 R 9 (updZ (R 9) (d1 * 4 + (R 8 d1).toNat) y1)) 8 (updZ (R 8) d1 (R 8 d1 + 1))) 10 0).toNat = cnt (fun s => decide (0 < rFk (u2 (u2 R 9 (updZ (R 9) (d1 * 4 + (R 8 d1).toNat) y1)) 8 (updZ (R 8) d1 (R 8 d1 + 1))) s)) ((u2 (u2 R 9 (updZ (R 9) (d1 * 4 + (R 8 d1).toNat) y1)) 8 (updZ (R 8) d1 (R 8 d1 + 1))) 10 0).toNat := rfl
          refine tl_some ?_
          refine lv_aload_n hx hb dX10_ifCracked_81 rfl (lv_at hl 0 rfl) ?_
          refine lv_aload_n hx hb dX10_ifCracked_82 rfl (lv_at hl 0 rfl) ?_
          refine va_get (D := g) (ci := 10) (v := Value.ref (ma 1)) (C := RX10) (T := TX10) (N := 18) hx hb hts in_X10_ifCracked_X10 hown hK.1 hP 0 (rfl) rfl 1 (by decide) (hts _ (List.mem_of_getElem? (i := 1) rfl) : (Cond.fieldLink RX10 7 "CordSealsModel" "now" "[I").before _ s = true) (fun _ h9 => h9) rfl dX10_ifCracked_83 ?_
          refine rw_V (As := [Value.ref (ma 1)]) (rest := [Value.int (iI (rFks (u2 (u2 R 9 (updZ (R 9) (d1 * 4 + (R 8 d1).toNat) y1)) 8 (updZ (R 8) d1 (R 8 d1 + 1))) ((u2 (u2 R 9 (updZ (R 9) (d1 * 4 + (R 8 d1).toNat) y1)) 8 (updZ (R 8) d1 (R 8 d1 + 1))) 10 0).toNat))]) ⟨hx, hb, hml, hown, hts⟩ (c_X10_fakes l g τ ma M_5 (ma 1) R hI ) gX10_ifCracked_X10_fakes cd_X10_fakes rfl rfl ⟨rfl, rfl⟩ ⟨Nat.le_of_ble_eq_true rfl, Nat.le_of_ble_eq_true rfl⟩ hK hP hD hS [0, 1] (rfl) (by decide) 0 rfl rfl rfl rfl hl rfl (Nat.le_of_ble_eq_true rfl) dX10_ifCracked_86 ⟨Nat.le_of_ble_eq_true rfl, Nat.le_of_ble_eq_true rfl⟩ (fun v w h => by obtain ⟨-, M9, -, rfl⟩ := h; rfl) (fun v w1 H locs hZ hP hD hS => ?_)
          obtain ⟨rfl, M_6, hgM_6, rfl⟩ := hZ
          have hP : va_P g vwCl ([moO ma M_6, arC (ma 1) (τ 0) 291 (flR R), arC (ma 2) (τ 0) 291 (flR (u2 (u2 R 9 (updZ (R 9) (d1 * 4 + (R 8 d1).toNat) y1)) 8 (updZ (R 8) d1 (R 8 d1 + 1))))]) H := hP
          have hD : va_D A ([moO ma M_6, arC (ma 1) (τ 0) 291 (flR R), arC (ma 2) (τ 0) 291 (flR (u2 (u2 R 9 (updZ (R 9) (d1 * 4 + (R 8 d1).toNat) y1)) 8 (updZ (R 8) d1 (R 8 d1 + 1))))]) := hD
          have hfM_6_0 : M_6 0 = M_5 0 := hgM_6 0 (by decide)
          have hfM_6_5 : M_6 5 = M_5 5 := hgM_6 5 (by decide)
          have hfM_6_9 : M_6 9 = M_5 9 := hgM_6 9 (by decide)
          have hfM_6_10 : M_6 10 = M_5 10 := hgM_6 10 (by decide)
          have hfM_6_11 : M_6 11 = M_5 11 := hgM_6 11 (by decide)
          have hfM_6_12 : M_6 12 = M_5 12 := hgM_6 12 (by decide)
          have := cnt_le (fun s => decide (0 < rFk R s)) (R 10 0).toNat
          have hfks : rFks R (R 10 0).toNat = cnt (fun s => decide (0 < rFk R s)) (R 10 0).toNat := rfl
          refine tl_some ?_
          refine zi_sub hx hb dX10_ifCracked_89 ?_
          exact rw_iret hx hb hr hlocks hP hS (by (have ha : aCrack R (d1 : Int) y1 = (R 8 d1, u2 (u2 R 9 (updZ (R 9) (d1 * 4 + (R 8 d1).toNat) y1)) 8 (updZ (R 8) d1 (R 8 d1 + 1))) := (by unfold aCrack; rw [if_neg (by omega), if_neg (by unfold isY; omega)]; (try simp only [Int.toNat_natCast]); rw [if_neg hcc])); exact ⟨M_6, (flR (u2 (u2 R 9 (updZ (R 9) (d1 * 4 + (R 8 d1).toNat) y1)) 8 (updZ (R 8) d1 (R 8 d1 + 1)))), by show (M_6 5) = M 5; first | rfl | omega, by show (M_6 9) = M 9; first | rfl | omega, rfl, Or.inr ⟨by rw [ha]; show (0 : Int) ≤ R 8 d1; omega, by rw [ha]; rfl, by show (M_6 0) = 0; first | rfl | omega⟩⟩) dX10_ifCracked_90
        · exact absurd c_4 (by decide)
      · have _ := c_3
        have hcc := cP_f c_3
        refine lv_iconst (v := iI 3) hx hb dX10_ifCracked_39 (by decide) ?_
        refine lv_goto (tgt := 44) hx hb dX10_ifCracked_40 (by decide) ?_
        refine rw_V (As := [Value.int (iI 3)]) (rest := []) ⟨hx, hb, hml, hown, hts⟩ (c_X10_refused l g τ ma M 3 ⟨by decide, by decide⟩) gX10_ifCracked_X10_refused cd_X10_refused rfl rfl ⟨rfl, rfl⟩ ⟨Nat.le_of_ble_eq_true rfl, Nat.le_of_ble_eq_true rfl⟩ hK hP hD hS [0] (rfl) (by decide) 0 rfl rfl rfl rfl hl rfl (Nat.le_of_ble_eq_true rfl) dX10_ifCracked_44 ⟨Nat.le_of_ble_eq_true rfl, Nat.le_of_ble_eq_true rfl⟩ (fun v w h => by rw [h.2]; rfl) (fun v w1 H locs hZ hP hD hS => ?_)
        obtain ⟨rfl, rfl⟩ := hZ
        have hP : va_P g vwCl ([moO ma (updZ M 0 3), arC (ma 1) (τ 0) 291 (flR R), arC (ma 2) (τ 0) 291 T]) H := hP
        have hD : va_D A ([moO ma (updZ M 0 3), arC (ma 1) (τ 0) 291 (flR R), arC (ma 2) (τ 0) 291 T]) := hD
        refine tl_some ?_
        refine cv_i (y := iI 1) (congrArg iI (if_neg (by decide))) ?_
        refine zi_if_eq (tgt := 52) hx hb ⟨by decide, by decide⟩ dX10_ifCracked_47 (by decide) (fun c_7 => ?_) (fun c_7 => ?_)
        · exact absurd c_7 (by decide)
        refine lv_iconst (v := iI 0) hx hb dX10_ifCracked_50 (by decide) ?_
        exact rw_iret hx hb hr hlocks hP hS (by first | ((have ha : aCrack R z1 y1 = (-2, R) := (by unfold aCrack; rw [if_pos (by omega)])); exact ⟨(updZ M 0 3), T, by show (M 5) = M 5; first | rfl | omega, by show (M 9) = M 9; first | rfl | omega, rfl, Or.inl ⟨by rw [ha]; show (-2 : Int) < 0; decide, rfl, by rw [ha]; rfl⟩⟩) | ((have ha : aCrack R z1 y1 = (-3, R) := (by unfold aCrack; rw [if_neg (by omega), if_pos (by unfold isY; omega)])); exact ⟨(updZ M 0 3), T, by show (M 5) = M 5; first | rfl | omega, by show (M 9) = M 9; first | rfl | omega, rfl, Or.inl ⟨by rw [ha]; show (-3 : Int) < 0; decide, rfl, by rw [ha]; rfl⟩⟩) | ((have ha : aCrack R (d1 : Int) y1 = (-4, R) := (by unfold aCrack; rw [if_neg (by omega), if_neg (by unfold isY; omega)]; (try simp only [Int.toNat_natCast]); rw [if_pos hcc])); exact ⟨(updZ M 0 3), T, by show (M 5) = M 5; first | rfl | omega, by show (M 9) = M 9; first | rfl | omega, rfl, Or.inl ⟨by rw [ha]; show (-4 : Int) < 0; decide, rfl, by rw [ha]; rfl⟩⟩)) dX10_ifCracked_51
    · have cd_c_2 := of_decide_eq_false c_2
      refine lv_iconst (v := iI 2) hx hb dX10_ifCracked_23 (by decide) ?_
      refine lv_goto (tgt := 44) hx hb dX10_ifCracked_24 (by decide) ?_
      refine rw_V (As := [Value.int (iI 2)]) (rest := []) ⟨hx, hb, hml, hown, hts⟩ (c_X10_refused l g τ ma M 2 ⟨by decide, by decide⟩) gX10_ifCracked_X10_refused cd_X10_refused rfl rfl ⟨rfl, rfl⟩ ⟨Nat.le_of_ble_eq_true rfl, Nat.le_of_ble_eq_true rfl⟩ hK hP hD hS [0] (rfl) (by decide) 0 rfl rfl rfl rfl hl rfl (Nat.le_of_ble_eq_true rfl) dX10_ifCracked_44 ⟨Nat.le_of_ble_eq_true rfl, Nat.le_of_ble_eq_true rfl⟩ (fun v w h => by rw [h.2]; rfl) (fun v w1 H locs hZ hP hD hS => ?_)
      obtain ⟨rfl, rfl⟩ := hZ
      have hP : va_P g vwCl ([moO ma (updZ M 0 2), arC (ma 1) (τ 0) 291 (flR R), arC (ma 2) (τ 0) 291 T]) H := hP
      have hD : va_D A ([moO ma (updZ M 0 2), arC (ma 1) (τ 0) 291 (flR R), arC (ma 2) (τ 0) 291 T]) := hD
      refine tl_some ?_
      refine cv_i (y := iI 1) (congrArg iI (if_neg (by decide))) ?_
      refine zi_if_eq (tgt := 52) hx hb ⟨by decide, by decide⟩ dX10_ifCracked_47 (by decide) (fun c_8 => ?_) (fun c_8 => ?_)
      · exact absurd c_8 (by decide)
      refine lv_iconst (v := iI 0) hx hb dX10_ifCracked_50 (by decide) ?_
      exact rw_iret hx hb hr hlocks hP hS (by first | ((have ha : aCrack R z1 y1 = (-2, R) := (by unfold aCrack; rw [if_pos (by omega)])); exact ⟨(updZ M 0 2), T, by show (M 5) = M 5; first | rfl | omega, by show (M 9) = M 9; first | rfl | omega, rfl, Or.inl ⟨by rw [ha]; show (-2 : Int) < 0; decide, rfl, by rw [ha]; rfl⟩⟩) | ((have ha : aCrack R z1 y1 = (-3, R) := (by unfold aCrack; rw [if_neg (by omega), if_pos (by unfold isY; omega)])); exact ⟨(updZ M 0 2), T, by show (M 5) = M 5; first | rfl | omega, by show (M 9) = M 9; first | rfl | omega, rfl, Or.inl ⟨by rw [ha]; show (-3 : Int) < 0; decide, rfl, by rw [ha]; rfl⟩⟩) | ((have ha : aCrack R (d1 : Int) y1 = (-4, R) := (by unfold aCrack; rw [if_neg (by omega), if_neg (by unfold isY; omega)]; (try simp only [Int.toNat_natCast]); rw [if_pos hcc])); exact ⟨(updZ M 0 2), T, by show (M 5) = M 5; first | rfl | omega, by show (M 9) = M 9; first | rfl | omega, rfl, Or.inl ⟨by rw [ha]; show (-4 : Int) < 0; decide, rfl, by rw [ha]; rfl⟩⟩)) dX10_ifCracked_51
  · have cd_c_1 := of_decide_eq_false c_1
    refine lv_iconst (v := iI 1) hx hb dX10_ifCracked_12 (by decide) ?_
    refine lv_goto (tgt := 44) hx hb dX10_ifCracked_13 (by decide) ?_
    refine rw_V (As := [Value.int (iI 1)]) (rest := []) ⟨hx, hb, hml, hown, hts⟩ (c_X10_refused l g τ ma M 1 ⟨by decide, by decide⟩) gX10_ifCracked_X10_refused cd_X10_refused rfl rfl ⟨rfl, rfl⟩ ⟨Nat.le_of_ble_eq_true rfl, Nat.le_of_ble_eq_true rfl⟩ hK hP hD hS [0] (rfl) (by decide) 0 rfl rfl rfl rfl hl rfl (Nat.le_of_ble_eq_true rfl) dX10_ifCracked_44 ⟨Nat.le_of_ble_eq_true rfl, Nat.le_of_ble_eq_true rfl⟩ (fun v w h => by rw [h.2]; rfl) (fun v w1 H locs hZ hP hD hS => ?_)
    obtain ⟨rfl, rfl⟩ := hZ
    have hP : va_P g vwCl ([moO ma (updZ M 0 1), arC (ma 1) (τ 0) 291 (flR R), arC (ma 2) (τ 0) 291 T]) H := hP
    have hD : va_D A ([moO ma (updZ M 0 1), arC (ma 1) (τ 0) 291 (flR R), arC (ma 2) (τ 0) 291 T]) := hD
    refine tl_some ?_
    refine cv_i (y := iI 1) (congrArg iI (if_neg (by decide))) ?_
    refine zi_if_eq (tgt := 52) hx hb ⟨by decide, by decide⟩ dX10_ifCracked_47 (by decide) (fun c_9 => ?_) (fun c_9 => ?_)
    · exact absurd c_9 (by decide)
    refine lv_iconst (v := iI 0) hx hb dX10_ifCracked_50 (by decide) ?_
    exact rw_iret hx hb hr hlocks hP hS (by first | ((have ha : aCrack R z1 y1 = (-2, R) := (by unfold aCrack; rw [if_pos (by omega)])); exact ⟨(updZ M 0 1), T, by show (M 5) = M 5; first | rfl | omega, by show (M 9) = M 9; first | rfl | omega, rfl, Or.inl ⟨by rw [ha]; show (-2 : Int) < 0; decide, rfl, by rw [ha]; rfl⟩⟩) | ((have ha : aCrack R z1 y1 = (-3, R) := (by unfold aCrack; rw [if_neg (by omega), if_pos (by unfold isY; omega)])); exact ⟨(updZ M 0 1), T, by show (M 5) = M 5; first | rfl | omega, by show (M 9) = M 9; first | rfl | omega, rfl, Or.inl ⟨by rw [ha]; show (-3 : Int) < 0; decide, rfl, by rw [ha]; rfl⟩⟩) | ((have ha : aCrack R (d1 : Int) y1 = (-4, R) := (by unfold aCrack; rw [if_neg (by omega), if_neg (by unfold isY; omega)]; (try simp only [Int.toNat_natCast]); rw [if_pos hcc])); exact ⟨(updZ M 0 1), T, by show (M 5) = M 5; first | rfl | omega, by show (M 9) = M 9; first | rfl | omega, rfl, Or.inl ⟨by rw [ha]; show (-4 : Int) < 0; decide, rfl, by rw [ha]; rfl⟩⟩)) dX10_ifCracked_51

theorem cd_X10_ifHung : cd yX10_ifHung 2 := by decide +kernel
theorem in_X10_ifHung_X10 : ∀ w ∈ wsX100, w ∈ wsX10_ifHung := by decide +kernel
set_option maxHeartbeats 4000000 in
set_option maxRecDepth 100000 in
theorem c_X10_ifHung (l : Launch) (g : va_G) (τ : Nat → ClassId) (ma : Nat → Nat) (M : Nat → Int) (R : Nat → Nat → Int) (hI : SI R) (T : Nat → Int) (z1 : Int) (rz1 : -2147483648 ≤ z1 ∧ z1 < 2147483648) (y1 : Int) (ry1 : -2147483648 ≤ y1 ∧ y1 < 2147483648)  : Met l yX10_ifHung wsX10_ifHung { frames := 6, cells := 0, slots := 0, locals := 143 } (va_Pc [Value.ref (ma 0), Value.int (iI z1), Value.int (iI y1)] (rwW g τ ([moO ma M, arC (ma 1) (τ 0) 291 (flR R), arC (ma 2) (τ 0) 291 T]))) (rwQ g (fun v w => ∃ (M2 T2 : Nat → Int), M2 5 = M 5 ∧ M2 9 = M 9 ∧ w = [moO ma M2, arC (ma 1) (τ 0) 291 (flR R), arC (ma 2) (τ 0) 291 T2] ∧ (((aHang R z1 y1).1 < 0 ∧ v = some (Value.int (iI 0)) ∧ M2 0 = 1) ∨ (0 ≤ (aHang R z1 y1).1 ∧ v = some (Value.int (iI (rCh (aHang R z1 y1).2 y1 (-1) 2))) ∧ M2 0 = 0))) (inW ([moO ma M, arC (ma 1) (τ 0) 291 (flR R), arC (ma 2) (τ 0) 291 T]))) 0 0 (inW ([moO ma M, arC (ma 1) (τ 0) 291 (flR R), arC (ma 2) (τ 0) 291 T])) := by
  have hB := hI.hB
  have hr0 := hI.r
  have hd0 := hI.d
  have hs0 := hI.s
  refine rwMet (cc := cX10_ifHung) (maxL := 3) (ret := (some .int)) (lv := [(0, Value.ref (ma 0)), (1, Value.int (iI z1)), (2, Value.int (iI y1))]) (by decide) rfl (Nat.le_of_ble_eq_true rfl) rfl ?_
  intro p e s m below meth c hx hb hr hml hts hown hlocks A H hP hD hS hK ls hl
  refine lv_aload_n hx hb dX10_ifHung_0 rfl (lv_at hl 0 rfl) ?_
  refine lv_aload_n hx hb dX10_ifHung_1 rfl (lv_at hl 0 rfl) ?_
  refine va_get (D := g) (ci := 10) (v := Value.ref (ma 1)) (C := RX10) (T := TX10) (N := 18) hx hb hts in_X10_ifHung_X10 hown hK.1 hP 0 (rfl) rfl 1 (by decide) (hts _ (List.mem_of_getElem? (i := 1) rfl) : (Cond.fieldLink RX10 7 "CordSealsModel" "now" "[I").before _ s = true) (fun _ h9 => h9) rfl dX10_ifHung_2 ?_
  refine lv_iload_n hx hb dX10_ifHung_5 rfl (lv_at hl 1 rfl) ?_
  refine ro_S (As := [Value.ref (ma 1), Value.int (iI z1)]) (rest := [Value.ref (ma 0)]) (v := some (Value.int (iI (zB (decide (0 ≤ z1 ∧ z1 ≤ R 10 0 - 1)))))) ⟨hx, hb, hml, hown, hts⟩ (c_X10_hasSeal l g τ (ma 1) R hI z1 ⟨by omega, by omega⟩) gX10_ifHung_X10_hasSeal cd_X10_hasSeal rfl ⟨rfl, rfl⟩ ⟨Nat.le_of_ble_eq_true rfl, Nat.le_of_ble_eq_true rfl⟩ hK (cut_P (is := [1]) hP rfl) rfl hl rfl (Nat.le_of_ble_eq_true rfl) dX10_ifHung_6 ⟨Nat.le_of_ble_eq_true rfl, Nat.le_of_ble_eq_true rfl⟩ ?_
  refine tl_some ?_
  refine zb_if_eq (tgt := 23) hx hb dX10_ifHung_9 (by decide) (fun c_1 => ?_) (fun c_1 => ?_)
  · have cd_c_1 := of_decide_eq_false c_1
    refine lv_iconst (v := iI 1) hx hb dX10_ifHung_23 (by decide) ?_
    refine rw_V (As := [Value.int (iI 1)]) (rest := []) ⟨hx, hb, hml, hown, hts⟩ (c_X10_refused l g τ ma M 1 ⟨by decide, by decide⟩) gX10_ifHung_X10_refused cd_X10_refused rfl rfl ⟨rfl, rfl⟩ ⟨Nat.le_of_ble_eq_true rfl, Nat.le_of_ble_eq_true rfl⟩ hK hP hD hS [0] (rfl) (by decide) 0 rfl rfl rfl rfl hl rfl (Nat.le_of_ble_eq_true rfl) dX10_ifHung_24 ⟨Nat.le_of_ble_eq_true rfl, Nat.le_of_ble_eq_true rfl⟩ (fun v w h => by rw [h.2]; rfl) (fun v w1 H locs hZ hP hD hS => ?_)
    obtain ⟨rfl, rfl⟩ := hZ
    have hP : va_P g vwCl ([moO ma (updZ M 0 1), arC (ma 1) (τ 0) 291 (flR R), arC (ma 2) (τ 0) 291 T]) H := hP
    have hD : va_D A ([moO ma (updZ M 0 1), arC (ma 1) (τ 0) 291 (flR R), arC (ma 2) (τ 0) 291 T]) := hD
    refine tl_some ?_
    refine cv_i (y := iI 1) (congrArg iI (if_neg (by decide))) ?_
    refine zi_if_eq (tgt := 32) hx hb ⟨by decide, by decide⟩ dX10_ifHung_27 (by decide) (fun c_2 => ?_) (fun c_2 => ?_)
    · exact absurd c_2 (by decide)
    refine lv_iconst (v := iI 0) hx hb dX10_ifHung_30 (by decide) ?_
    exact rw_iret hx hb hr hlocks hP hS (by (have ha : aHang R z1 y1 = (-2, R) := (by unfold aHang; rw [if_pos (by omega)])); exact ⟨(updZ M 0 1), T, by show (M 5) = M 5; first | rfl | omega, by show (M 9) = M 9; first | rfl | omega, rfl, Or.inl ⟨by rw [ha]; show (-2 : Int) < 0; decide, rfl, rfl⟩⟩) dX10_ifHung_31
  · have cd_c_1 := of_decide_eq_true c_1
    refine lv_iload_n hx hb dX10_ifHung_12 rfl (lv_at hl 2 rfl) ?_
    refine ro_S (As := [Value.int (iI y1)]) (rest := [Value.ref (ma 0)]) (v := some (Value.int (iI (zB (decide (0 ≤ y1 ∧ y1 ≤ 5)))))) ⟨hx, hb, hml, hown, hts⟩ (c_X10_isCharter l g τ y1 ⟨by omega, by omega⟩) gX10_ifHung_X10_isCharter cd_X10_isCharter rfl ⟨rfl, rfl⟩ ⟨Nat.le_of_ble_eq_true rfl, Nat.le_of_ble_eq_true rfl⟩ hK (fun _ _ h => by cases h) rfl hl rfl (Nat.le_of_ble_eq_true rfl) dX10_ifHung_13 ⟨Nat.le_of_ble_eq_true rfl, Nat.le_of_ble_eq_true rfl⟩ ?_
    refine tl_some ?_
    refine zb_if_eq (tgt := 23) hx hb dX10_ifHung_16 (by decide) (fun c_3 => ?_) (fun c_3 => ?_)
    · have cd_c_3 := of_decide_eq_false c_3
      refine lv_iconst (v := iI 1) hx hb dX10_ifHung_23 (by decide) ?_
      refine rw_V (As := [Value.int (iI 1)]) (rest := []) ⟨hx, hb, hml, hown, hts⟩ (c_X10_refused l g τ ma M 1 ⟨by decide, by decide⟩) gX10_ifHung_X10_refused cd_X10_refused rfl rfl ⟨rfl, rfl⟩ ⟨Nat.le_of_ble_eq_true rfl, Nat.le_of_ble_eq_true rfl⟩ hK hP hD hS [0] (rfl) (by decide) 0 rfl rfl rfl rfl hl rfl (Nat.le_of_ble_eq_true rfl) dX10_ifHung_24 ⟨Nat.le_of_ble_eq_true rfl, Nat.le_of_ble_eq_true rfl⟩ (fun v w h => by rw [h.2]; rfl) (fun v w1 H locs hZ hP hD hS => ?_)
      obtain ⟨rfl, rfl⟩ := hZ
      have hP : va_P g vwCl ([moO ma (updZ M 0 1), arC (ma 1) (τ 0) 291 (flR R), arC (ma 2) (τ 0) 291 T]) H := hP
      have hD : va_D A ([moO ma (updZ M 0 1), arC (ma 1) (τ 0) 291 (flR R), arC (ma 2) (τ 0) 291 T]) := hD
      refine tl_some ?_
      refine cv_i (y := iI 1) (congrArg iI (if_neg (by decide))) ?_
      refine zi_if_eq (tgt := 32) hx hb ⟨by decide, by decide⟩ dX10_ifHung_27 (by decide) (fun c_4 => ?_) (fun c_4 => ?_)
      · exact absurd c_4 (by decide)
      refine lv_iconst (v := iI 0) hx hb dX10_ifHung_30 (by decide) ?_
      exact rw_iret hx hb hr hlocks hP hS (by (have ha : aHang R z1 y1 = (-2, R) := (by unfold aHang; rw [if_pos (by omega)])); exact ⟨(updZ M 0 1), T, by show (M 5) = M 5; first | rfl | omega, by show (M 9) = M 9; first | rfl | omega, rfl, Or.inl ⟨by rw [ha]; show (-2 : Int) < 0; decide, rfl, rfl⟩⟩) dX10_ifHung_31
    · have cd_c_3 := of_decide_eq_true c_3
      refine lv_iconst (v := iI 0) hx hb dX10_ifHung_19 (by decide) ?_
      refine lv_goto (tgt := 24) hx hb dX10_ifHung_20 (by decide) ?_
      refine rw_V (As := [Value.int (iI 0)]) (rest := []) ⟨hx, hb, hml, hown, hts⟩ (c_X10_refused l g τ ma M 0 ⟨by decide, by decide⟩) gX10_ifHung_X10_refused cd_X10_refused rfl rfl ⟨rfl, rfl⟩ ⟨Nat.le_of_ble_eq_true rfl, Nat.le_of_ble_eq_true rfl⟩ hK hP hD hS [0] (rfl) (by decide) 0 rfl rfl rfl rfl hl rfl (Nat.le_of_ble_eq_true rfl) dX10_ifHung_24 ⟨Nat.le_of_ble_eq_true rfl, Nat.le_of_ble_eq_true rfl⟩ (fun v w h => by rw [h.2]; rfl) (fun v w1 H locs hZ hP hD hS => ?_)
      obtain ⟨rfl, rfl⟩ := hZ
      have hP : va_P g vwCl ([moO ma (updZ M 0 0), arC (ma 1) (τ 0) 291 (flR R), arC (ma 2) (τ 0) 291 T]) H := hP
      have hD : va_D A ([moO ma (updZ M 0 0), arC (ma 1) (τ 0) 291 (flR R), arC (ma 2) (τ 0) 291 T]) := hD
      refine tl_some ?_
      refine cv_i (y := iI 0) (congrArg iI (if_pos rfl)) ?_
      refine zi_if_eq (tgt := 32) hx hb ⟨by decide, by decide⟩ dX10_ifHung_27 (by decide) (fun c_5 => ?_) (fun c_5 => ?_)
      · skip
        obtain ⟨s1, rfl⟩ := Int.eq_ofNat_of_zero_le (show 0 ≤ z1 by omega)
        have hhp := hang_pos (R := R) (s := s1) (z := y1) (by omega)
        refine lv_aload_n hx hb dX10_ifHung_32 rfl (lv_at hl 0 rfl) ?_
        refine va_get (D := g) (ci := 10) (v := Value.ref (ma 1)) (C := RX10) (T := TX10) (N := 18) hx hb hts in_X10_ifHung_X10 hown hK.1 hP 0 (rfl) rfl 1 (by decide) (hts _ (List.mem_of_getElem? (i := 1) rfl) : (Cond.fieldLink RX10 7 "CordSealsModel" "now" "[I").before _ s = true) (fun _ h9 => h9) rfl dX10_ifHung_33 ?_
        refine lv_aload_n hx hb dX10_ifHung_36 rfl (lv_at hl 0 rfl) ?_
        refine va_get (D := g) (ci := 10) (v := Value.ref (ma 2)) (C := RX10) (T := TX10) (N := 18) hx hb hts in_X10_ifHung_X10 hown hK.1 hP 0 (rfl) rfl 2 (by decide) (hts _ (List.mem_of_getElem? (i := 2) rfl) : (Cond.fieldLink RX10 13 "CordSealsModel" "trial" "[I").before _ s = true) (fun _ h9 => h9) rfl dX10_ifHung_37 ?_
        refine rw_S (As := [Value.ref (ma 1), Value.ref (ma 2)]) (rest := []) ⟨hx, hb, hml, hown, hts⟩ (c_X10_copy l g τ (ma 1) (ma 2) R T) gX10_ifHung_X10_copy cd_X10_copy rfl ⟨rfl, rfl⟩ ⟨Nat.le_of_ble_eq_true rfl, Nat.le_of_ble_eq_true rfl⟩ hK hP hD hS [1, 2] (rfl) (by decide) rfl hl rfl (Nat.le_of_ble_eq_true rfl) dX10_ifHung_40 ⟨Nat.le_of_ble_eq_true rfl, Nat.le_of_ble_eq_true rfl⟩ (fun v w h => by rw [h.2]; rfl) (fun v w1 H locs hZ hP hD hS => ?_)
        obtain ⟨rfl, rfl⟩ := hZ
        have hP : va_P g vwCl ([moO ma (updZ M 0 0), arC (ma 1) (τ 0) 291 (flR R), arC (ma 2) (τ 0) 291 (flR R)]) H := hP
        have hD : va_D A ([moO ma (updZ M 0 0), arC (ma 1) (τ 0) 291 (flR R), arC (ma 2) (τ 0) 291 (flR R)]) := hD
        refine tl_none ?_
        refine lv_aload_n hx hb dX10_ifHung_43 rfl (lv_at hl 0 rfl) ?_
        refine va_get (D := g) (ci := 10) (v := Value.ref (ma 2)) (C := RX10) (T := TX10) (N := 18) hx hb hts in_X10_ifHung_X10 hown hK.1 hP 0 (rfl) rfl 2 (by decide) (hts _ (List.mem_of_getElem? (i := 2) rfl) : (Cond.fieldLink RX10 13 "CordSealsModel" "trial" "[I").before _ s = true) (fun _ h9 => h9) rfl dX10_ifHung_44 ?_
        refine lv_iload_n hx hb dX10_ifHung_47 rfl (lv_at hl 1 rfl) ?_
        refine lv_iload_n hx hb dX10_ifHung_48 rfl (lv_at hl 2 rfl) ?_
        refine rw_S (As := [Value.ref (ma 2), Value.int (iI (s1 : Int)), Value.int (iI y1)]) (rest := []) ⟨hx, hb, hml, hown, hts⟩ (c_X10_goHang l g τ (ma 2) R hI s1 (by omega) y1 ⟨by omega, by omega⟩ (SI_hang hI ⟨by omega, by omega⟩)) gX10_ifHung_X10_goHang cd_X10_goHang rfl ⟨rfl, rfl⟩ ⟨Nat.le_of_ble_eq_true rfl, Nat.le_of_ble_eq_true rfl⟩ hK hP hD hS [2] (rfl) (by decide) rfl hl rfl (Nat.le_of_ble_eq_true rfl) dX10_ifHung_49 ⟨Nat.le_of_ble_eq_true rfl, Nat.le_of_ble_eq_true rfl⟩ (fun v w h => by rw [h.2]; exact f_fl _ _ _ _) (fun v w1 H locs hZ hP hD hS => ?_)
        obtain ⟨rfl, rfl⟩ := hZ
        have hP : va_P g vwCl ([moO ma (updZ M 0 0), arC (ma 1) (τ 0) 291 (flR R), arC (ma 2) (τ 0) 291 (flR (u2 R 16 (updZ (R 16) s1 y1)))]) H := hP
        have hD : va_D A ([moO ma (updZ M 0 0), arC (ma 1) (τ 0) 291 (flR R), arC (ma 2) (τ 0) 291 (flR (u2 R 16 (updZ (R 16) s1 y1)))]) := hD
        refine tl_some ?_
        refine lv_pop hx hb dX10_ifHung_52 rfl ?_
        refine lv_aload_n hx hb dX10_ifHung_53 rfl (lv_at hl 0 rfl) ?_
        refine lv_aload_n hx hb dX10_ifHung_54 rfl (lv_at hl 0 rfl) ?_
        refine va_get (D := g) (ci := 10) (v := Value.ref (ma 2)) (C := RX10) (T := TX10) (N := 18) hx hb hts in_X10_ifHung_X10 hown hK.1 hP 0 (rfl) rfl 2 (by decide) (hts _ (List.mem_of_getElem? (i := 2) rfl) : (Cond.fieldLink RX10 13 "CordSealsModel" "trial" "[I").before _ s = true) (fun _ h9 => h9) rfl dX10_ifHung_55 ?_
        refine lv_iload_n hx hb dX10_ifHung_58 rfl (lv_at hl 2 rfl) ?_
        refine lv_iconst (v := iI (-1)) hx hb dX10_ifHung_59 (by decide) ?_
        refine lv_iconst (v := iI 2) hx hb dX10_ifHung_60 (by decide) ?_
        refine rw_V (As := [Value.ref (ma 2), Value.int (iI y1), Value.int (iI (-1)), Value.int (iI 2)]) (rest := []) ⟨hx, hb, hml, hown, hts⟩ (c_X10_ofCharter l g τ ma (updZ M 0 0) (ma 2) (u2 R 16 (updZ (R 16) s1 y1)) (SI_hang (t := s1) hI (x := y1) ⟨by omega, by omega⟩) y1 ⟨by omega, by omega⟩ (-1) ⟨by omega, by omega⟩ 2 ⟨by omega, by omega⟩) gX10_ifHung_X10_ofCharter cd_X10_ofCharter rfl rfl ⟨rfl, rfl⟩ ⟨Nat.le_of_ble_eq_true rfl, Nat.le_of_ble_eq_true rfl⟩ hK hP hD hS [0, 2] (rfl) (by decide) 0 rfl rfl rfl rfl hl rfl (Nat.le_of_ble_eq_true rfl) dX10_ifHung_61 ⟨Nat.le_of_ble_eq_true rfl, Nat.le_of_ble_eq_true rfl⟩ (fun v w h => by obtain ⟨-, M9, -, rfl⟩ := h; rfl) (fun v w1 H locs hZ hP hD hS => ?_)
        obtain ⟨rfl, M_6, hgM_6, rfl⟩ := hZ
        have hP : va_P g vwCl ([moO ma M_6, arC (ma 1) (τ 0) 291 (flR R), arC (ma 2) (τ 0) 291 (flR (u2 R 16 (updZ (R 16) s1 y1)))]) H := hP
        have hD : va_D A ([moO ma M_6, arC (ma 1) (τ 0) 291 (flR R), arC (ma 2) (τ 0) 291 (flR (u2 R 16 (updZ (R 16) s1 y1)))]) := hD
        have hfM_6_0 : M_6 0 = 0 := hgM_6 0 (by decide)
        have hfM_6_5 : M_6 5 = M 5 := hgM_6 5 (by decide)
        have hfM_6_9 : M_6 9 = M 9 := hgM_6 9 (by decide)
        have hfM_6_10 : M_6 10 = M 10 := hgM_6 10 (by decide)
        have hfM_6_11 : M_6 11 = M 11 := hgM_6 11 (by decide)
        have hfM_6_12 : M_6 12 = M 12 := hgM_6 12 (by decide)
        have := rCh_b (SI_hang (t := s1) hI (x := y1) ⟨by omega, by omega⟩) y1 (-1) 2
        refine tl_some ?_
        exact rw_iret hx hb hr hlocks hP hS (by (have ha : aHang R (s1 : Int) y1 = (cnt (fun s => decide (updZ (R 16) s1 y1 s = y1)) (R 10 0).toNat, u2 R 16 (updZ (R 16) s1 y1)) := (by unfold aHang; rw [if_neg (by omega)]; (try simp only [Int.toNat_natCast]))); exact ⟨M_6, (flR (u2 R 16 (updZ (R 16) s1 y1))), by show (M_6 5) = M 5; first | rfl | omega, by show (M_6 9) = M 9; first | rfl | omega, rfl, Or.inr ⟨by rw [ha]; show (0 : Int) ≤ cnt (fun s => decide (updZ (R 16) s1 y1 s = y1)) (R 10 0).toNat; omega, by rw [ha], by show (M_6 0) = 0; first | rfl | omega⟩⟩) dX10_ifHung_64
      · exact absurd c_5 (by decide)

theorem cd_X10_leastBubbles : cd yX10_leastBubbles 2 := by decide +kernel
theorem in_X10_leastBubbles_X10 : ∀ w ∈ wsX100, w ∈ wsX10_leastBubbles := by decide +kernel
set_option maxHeartbeats 4000000 in
set_option maxRecDepth 100000 in
theorem c_X10_leastBubbles (l : Launch) (g : va_G) (τ : Nat → ClassId) (ma : Nat → Nat) (M : Nat → Int) (R : Nat → Nat → Int) (hI : SI R) (T : Nat → Int) (z1 : Int) (rz1 : -2147483648 ≤ z1 ∧ z1 < 2147483648) (k1 : Int) (rk1 : -2147483648 ≤ k1 ∧ k1 < 2147483648)  : Met l yX10_leastBubbles wsX10_leastBubbles { frames := 8, cells := 0, slots := 0, locals := 189 } (va_Pc [Value.ref (ma 0), Value.int (iI z1), Value.int (iI k1)] (rwW g τ ([moO ma M, arC (ma 1) (τ 0) 291 (flR R), arC (ma 2) (τ 0) 291 T]))) (rwQ g (fun v w => ∃ (M2 T2 : Nat → Int), M2 5 = M 5 ∧ M2 9 = M 9 ∧ w = [moO ma M2, arC (ma 1) (τ 0) 291 (flR R), arC (ma 2) (τ 0) 291 T2] ∧ ((¬ ((0 ≤ z1 ∧ z1 ≤ 1) ∧ 0 ≤ k1) ∧ v = some (Value.int (iI 0)) ∧ M2 0 = 1) ∨ (((0 ≤ z1 ∧ z1 ≤ 1) ∧ 0 ≤ k1) ∧ v = some (Value.int (iI (lbN R z1.toNat k1))) ∧ M2 0 = 0))) (inW ([moO ma M, arC (ma 1) (τ 0) 291 (flR R), arC (ma 2) (τ 0) 291 T]))) 0 0 (inW ([moO ma M, arC (ma 1) (τ 0) 291 (flR R), arC (ma 2) (τ 0) 291 T])) := by
  have hB := hI.hB
  have hr0 := hI.r
  have hd0 := hI.d
  have hs0 := hI.s
  refine rwMet (cc := cX10_leastBubbles) (maxL := 4) (ret := (some .int)) (lv := [(0, Value.ref (ma 0)), (1, Value.int (iI z1)), (2, Value.int (iI k1))]) (by decide) rfl (Nat.le_of_ble_eq_true rfl) rfl ?_
  intro p e s m below meth c hx hb hr hml hts hown hlocks A H hP hD hS hK ls hl
  refine lv_aload_n hx hb dX10_leastBubbles_0 rfl (lv_at hl 0 rfl) ?_
  refine lv_iload_n hx hb dX10_leastBubbles_1 rfl (lv_at hl 1 rfl) ?_
  refine lv_i2l (v := (iI z1).toInt64) hx hb dX10_leastBubbles_2 rfl ?_
  refine cv_l (y := iL z1) (i2l_iL ⟨by omega, by omega⟩) ?_
  refine lv_lconst (v := 0) hx hb dX10_leastBubbles_3 (by decide) ?_
  refine cv_l (y := iL 0) (by decide) ?_
  refine lv_lconst (v := 1) hx hb dX10_leastBubbles_4 (by decide) ?_
  refine cv_l (y := iL 1) (by decide) ?_
  refine ro_S (As := [Value.long (iL z1), Value.long (iL 0), Value.long (iL 1)]) (rest := [Value.ref (ma 0)]) (v := some (Value.int (iI (zB (decide (0 ≤ z1 ∧ z1 ≤ 1)))))) ⟨hx, hb, hml, hown, hts⟩ (c_X10_in l g τ z1 0 1 ⟨by omega, by omega⟩ ⟨by omega, by omega⟩ ⟨by omega, by omega⟩) gX10_leastBubbles_X10_in cd_X10_in rfl ⟨rfl, rfl⟩ ⟨Nat.le_of_ble_eq_true rfl, Nat.le_of_ble_eq_true rfl⟩ hK (fun _ _ h => by cases h) rfl hl rfl (Nat.le_of_ble_eq_true rfl) dX10_leastBubbles_5 ⟨Nat.le_of_ble_eq_true rfl, Nat.le_of_ble_eq_true rfl⟩ ?_
  refine tl_some ?_
  refine zb_if_eq (tgt := 19) hx hb dX10_leastBubbles_8 (by decide) (fun c_1 => ?_) (fun c_1 => ?_)
  · have cd_c_1 := of_decide_eq_false c_1
    refine lv_iconst (v := iI 1) hx hb dX10_leastBubbles_19 (by decide) ?_
    refine rw_V (As := [Value.int (iI 1)]) (rest := []) ⟨hx, hb, hml, hown, hts⟩ (c_X10_refused l g τ ma M 1 ⟨by decide, by decide⟩) gX10_leastBubbles_X10_refused cd_X10_refused rfl rfl ⟨rfl, rfl⟩ ⟨Nat.le_of_ble_eq_true rfl, Nat.le_of_ble_eq_true rfl⟩ hK hP hD hS [0] (rfl) (by decide) 0 rfl rfl rfl rfl hl rfl (Nat.le_of_ble_eq_true rfl) dX10_leastBubbles_20 ⟨Nat.le_of_ble_eq_true rfl, Nat.le_of_ble_eq_true rfl⟩ (fun v w h => by rw [h.2]; rfl) (fun v w1 H locs hZ hP hD hS => ?_)
    obtain ⟨rfl, rfl⟩ := hZ
    have hP : va_P g vwCl ([moO ma (updZ M 0 1), arC (ma 1) (τ 0) 291 (flR R), arC (ma 2) (τ 0) 291 T]) H := hP
    have hD : va_D A ([moO ma (updZ M 0 1), arC (ma 1) (τ 0) 291 (flR R), arC (ma 2) (τ 0) 291 T]) := hD
    refine tl_some ?_
    refine cv_i (y := iI 1) (congrArg iI (if_neg (by decide))) ?_
    refine zi_if_eq (tgt := 28) hx hb ⟨by decide, by decide⟩ dX10_leastBubbles_23 (by decide) (fun c_2 => ?_) (fun c_2 => ?_)
    · exact absurd c_2 (by decide)
    refine lv_iconst (v := iI 0) hx hb dX10_leastBubbles_26 (by decide) ?_
    exact rw_iret hx hb hr hlocks hP hS (⟨(updZ M 0 1), T, by show (M 5) = M 5; first | rfl | omega, by show (M 9) = M 9; first | rfl | omega, rfl, Or.inl ⟨by omega, rfl, by show 1 = 1; first | rfl | omega⟩⟩) dX10_leastBubbles_27
  · have cd_c_1 := of_decide_eq_true c_1
    refine lv_iload_n hx hb dX10_leastBubbles_11 rfl (lv_at hl 2 rfl) ?_
    refine zi_if_lt (tgt := 19) hx hb ⟨by omega, by omega⟩ dX10_leastBubbles_12 (by decide) (fun c_3 => ?_) (fun c_3 => ?_)
    · have _ := c_3
      refine lv_iconst (v := iI 1) hx hb dX10_leastBubbles_19 (by decide) ?_
      refine rw_V (As := [Value.int (iI 1)]) (rest := []) ⟨hx, hb, hml, hown, hts⟩ (c_X10_refused l g τ ma M 1 ⟨by decide, by decide⟩) gX10_leastBubbles_X10_refused cd_X10_refused rfl rfl ⟨rfl, rfl⟩ ⟨Nat.le_of_ble_eq_true rfl, Nat.le_of_ble_eq_true rfl⟩ hK hP hD hS [0] (rfl) (by decide) 0 rfl rfl rfl rfl hl rfl (Nat.le_of_ble_eq_true rfl) dX10_leastBubbles_20 ⟨Nat.le_of_ble_eq_true rfl, Nat.le_of_ble_eq_true rfl⟩ (fun v w h => by rw [h.2]; rfl) (fun v w1 H locs hZ hP hD hS => ?_)
      obtain ⟨rfl, rfl⟩ := hZ
      have hP : va_P g vwCl ([moO ma (updZ M 0 1), arC (ma 1) (τ 0) 291 (flR R), arC (ma 2) (τ 0) 291 T]) H := hP
      have hD : va_D A ([moO ma (updZ M 0 1), arC (ma 1) (τ 0) 291 (flR R), arC (ma 2) (τ 0) 291 T]) := hD
      refine tl_some ?_
      refine cv_i (y := iI 1) (congrArg iI (if_neg (by decide))) ?_
      refine zi_if_eq (tgt := 28) hx hb ⟨by decide, by decide⟩ dX10_leastBubbles_23 (by decide) (fun c_4 => ?_) (fun c_4 => ?_)
      · exact absurd c_4 (by decide)
      refine lv_iconst (v := iI 0) hx hb dX10_leastBubbles_26 (by decide) ?_
      exact rw_iret hx hb hr hlocks hP hS (⟨(updZ M 0 1), T, by show (M 5) = M 5; first | rfl | omega, by show (M 9) = M 9; first | rfl | omega, rfl, Or.inl ⟨by omega, rfl, by show 1 = 1; first | rfl | omega⟩⟩) dX10_leastBubbles_27
    · have _ := c_3
      refine lv_iconst (v := iI 0) hx hb dX10_leastBubbles_15 (by decide) ?_
      refine lv_goto (tgt := 20) hx hb dX10_leastBubbles_16 (by decide) ?_
      refine rw_V (As := [Value.int (iI 0)]) (rest := []) ⟨hx, hb, hml, hown, hts⟩ (c_X10_refused l g τ ma M 0 ⟨by decide, by decide⟩) gX10_leastBubbles_X10_refused cd_X10_refused rfl rfl ⟨rfl, rfl⟩ ⟨Nat.le_of_ble_eq_true rfl, Nat.le_of_ble_eq_true rfl⟩ hK hP hD hS [0] (rfl) (by decide) 0 rfl rfl rfl rfl hl rfl (Nat.le_of_ble_eq_true rfl) dX10_leastBubbles_20 ⟨Nat.le_of_ble_eq_true rfl, Nat.le_of_ble_eq_true rfl⟩ (fun v w h => by rw [h.2]; rfl) (fun v w1 H locs hZ hP hD hS => ?_)
      obtain ⟨rfl, rfl⟩ := hZ
      have hP : va_P g vwCl ([moO ma (updZ M 0 0), arC (ma 1) (τ 0) 291 (flR R), arC (ma 2) (τ 0) 291 T]) H := hP
      have hD : va_D A ([moO ma (updZ M 0 0), arC (ma 1) (τ 0) 291 (flR R), arC (ma 2) (τ 0) 291 T]) := hD
      refine tl_some ?_
      refine cv_i (y := iI 0) (congrArg iI (if_pos rfl)) ?_
      refine zi_if_eq (tgt := 28) hx hb ⟨by decide, by decide⟩ dX10_leastBubbles_23 (by decide) (fun c_5 => ?_) (fun c_5 => ?_)
      · skip
        obtain ⟨a1, rfl⟩ := Int.eq_ofNat_of_zero_le (show 0 ≤ z1 by omega)
        refine lv_aload_n hx hb dX10_leastBubbles_28 rfl (lv_at hl 0 rfl) ?_
        refine va_get (D := g) (ci := 10) (v := Value.ref (ma 1)) (C := RX10) (T := TX10) (N := 18) hx hb hts in_X10_leastBubbles_X10 hown hK.1 hP 0 (rfl) rfl 1 (by decide) (hts _ (List.mem_of_getElem? (i := 1) rfl) : (Cond.fieldLink RX10 7 "CordSealsModel" "now" "[I").before _ s = true) (fun _ h9 => h9) rfl dX10_leastBubbles_29 ?_
        refine lv_aload_n hx hb dX10_leastBubbles_32 rfl (lv_at hl 0 rfl) ?_
        refine va_get (D := g) (ci := 10) (v := Value.ref (ma 2)) (C := RX10) (T := TX10) (N := 18) hx hb hts in_X10_leastBubbles_X10 hown hK.1 hP 0 (rfl) rfl 2 (by decide) (hts _ (List.mem_of_getElem? (i := 2) rfl) : (Cond.fieldLink RX10 13 "CordSealsModel" "trial" "[I").before _ s = true) (fun _ h9 => h9) rfl dX10_leastBubbles_33 ?_
        refine rw_S (As := [Value.ref (ma 1), Value.ref (ma 2)]) (rest := []) ⟨hx, hb, hml, hown, hts⟩ (c_X10_copy l g τ (ma 1) (ma 2) R T) gX10_leastBubbles_X10_copy cd_X10_copy rfl ⟨rfl, rfl⟩ ⟨Nat.le_of_ble_eq_true rfl, Nat.le_of_ble_eq_true rfl⟩ hK hP hD hS [1, 2] (rfl) (by decide) rfl hl rfl (Nat.le_of_ble_eq_true rfl) dX10_leastBubbles_36 ⟨Nat.le_of_ble_eq_true rfl, Nat.le_of_ble_eq_true rfl⟩ (fun v w h => by rw [h.2]; rfl) (fun v w1 H locs hZ hP hD hS => ?_)
        obtain ⟨rfl, rfl⟩ := hZ
        have hP : va_P g vwCl ([moO ma (updZ M 0 0), arC (ma 1) (τ 0) 291 (flR R), arC (ma 2) (τ 0) 291 (flR R)]) H := hP
        have hD : va_D A ([moO ma (updZ M 0 0), arC (ma 1) (τ 0) 291 (flR R), arC (ma 2) (τ 0) 291 (flR R)]) := hD
        refine tl_none ?_
        refine lv_iconst (v := iI 0) hx hb dX10_leastBubbles_39 (by decide) ?_
        refine lv_istore_n (lv' := [(3, Value.int (iI 0)), (0, Value.ref (ma 0)), (1, Value.int (iI (a1 : Int))), (2, Value.int (iI k1))]) hx hb dX10_leastBubbles_40 rfl hl (by decide) rfl (fun ls hl => ?_)
        have hP : va_P g vwCl ([moO ma (updZ M 0 0), arC (ma 1) (τ 0) 291 (flR R), arC (ma 2) (τ 0) 291 (flR (lbR R a1 0))]) H := by exact hP
        have hD : va_D A ([moO ma (updZ M 0 0), arC (ma 1) (τ 0) 291 (flR R), arC (ma 2) (τ 0) 291 (flR (lbR R a1 0))]) := by exact hD
        refine lp_upX (fun i => [(3, Value.int (iI (i : Int))), (0, Value.ref (ma 0)), (1, Value.int (iI (a1 : Int))), (2, Value.int (iI k1))]) (fun i M_6 => [moO ma M_6, arC (ma 1) (τ 0) 291 (flR R), arC (ma 2) (τ 0) 291 (flR (lbR R a1 i))]) (fun i M_6 => AG (updZ M 0 0) M_6 ∧ ∀ j, j < i → lbP R a1 k1 j = false) (100) (0) (updZ M 0 0) (by omega) hP hD hS (⟨AG_r _, fun j hj => by omega⟩) (lv_eq (lv_sub hl [0, 1, 2, 3] rfl) (by show [(3, Value.int (iI 0)), (0, Value.ref (ma 0)), (1, Value.int (iI (a1 : Int))), (2, Value.int (iI k1))] = [(3, Value.int (iI 0)), (0, Value.ref (ma 0)), (1, Value.int (iI (a1 : Int))), (2, Value.int (iI k1))]; rfl)) (fun i h0_i hi_i M_6 hJ_i ih_41 H locs hP hD hS ls hl => ?_)
        have hI_i := hJ_i.2
        have hfM_6_0 : M_6 0 = 0 := hJ_i.1 0 (by decide)
        have hfM_6_5 : M_6 5 = M 5 := hJ_i.1 5 (by decide)
        have hfM_6_9 : M_6 9 = M 9 := hJ_i.1 9 (by decide)
        have hfM_6_10 : M_6 10 = M 10 := hJ_i.1 10 (by decide)
        have hfM_6_11 : M_6 11 = M 11 := hJ_i.1 11 (by decide)
        have hfM_6_12 : M_6 12 = M 12 := hJ_i.1 12 (by decide)
        have hlb := SI_lb (a := a1) (i := i) hI (by omega) (by omega)
        refine lv_iload_n hx hb dX10_leastBubbles_41 rfl (lv_at hl 0 rfl) ?_
        refine lv_bipush (v := iI 100) hx hb dX10_leastBubbles_42 (by decide) ?_
        refine zi_icmp_ge (tgt := 76) hx hb ⟨by omega, by omega⟩ ⟨by decide, by decide⟩ dX10_leastBubbles_44 (by decide) (fun c_7 => ?_) (fun c_7 => ?_)
        · have _ := c_7
          have h0_i : i = 100 := by omega
          refine lv_iconst (v := iI (-1)) hx hb dX10_leastBubbles_76 (by decide) ?_
          exact rw_iret hx hb hr hlocks hP hS (⟨M_6, (flR (lbR R a1 i)), by show (M_6 5) = M 5; first | rfl | omega, by show (M_6 9) = M 9; first | rfl | omega, rfl, Or.inr ⟨⟨⟨by omega, by omega⟩, by omega⟩, by (have hf : fst (lbP R a1 k1) 100 = 100 := fst_none (by rw [← h0_i]; exact hI_i)); show _ = some (Value.int (iI (lbN R a1 k1))); rw [lbN, hf, if_neg (by omega)], by show (M_6 0) = 0; first | rfl | omega⟩⟩) dX10_leastBubbles_77
        · have _ := c_7
          have hl_i : i < 100 := by omega
          refine lv_aload_n hx hb dX10_leastBubbles_47 rfl (lv_at hl 1 rfl) ?_
          refine va_get (D := g) (ci := 10) (v := Value.ref (ma 2)) (C := RX10) (T := TX10) (N := 18) hx hb hts in_X10_leastBubbles_X10 hown hK.1 hP 0 (rfl) rfl 2 (by decide) (hts _ (List.mem_of_getElem? (i := 2) rfl) : (Cond.fieldLink RX10 13 "CordSealsModel" "trial" "[I").before _ s = true) (fun _ h9 => h9) rfl dX10_leastBubbles_48 ?_
          refine lv_iconst (v := iI 3) hx hb dX10_leastBubbles_51 (by decide) ?_
          refine lv_iload_n hx hb dX10_leastBubbles_52 rfl (lv_at hl 2 rfl) ?_
          refine zi_add hx hb dX10_leastBubbles_53 ?_
          refine lv_iload_n hx hb dX10_leastBubbles_54 rfl (lv_at hl 0 rfl) ?_
          refine zf_ast hx hb hK hP hD hS 2 (f := flR (lbR R a1 i)) (f2 := flR (u2 (lbR R a1 i) 20 (updZ ((lbR R a1 i) 20) a1 (i : Int)))) rfl (3 + a1) (by omega) (by omega) (by decide) (fu_20 (by omega) (by omega)) dX10_leastBubbles_55 (wo := [moO ma M_6, arC (ma 1) (τ 0) 291 (flR R), arC (ma 2) (τ 0) 291 (flR (u2 (lbR R a1 i) 20 (updZ ((lbR R a1 i) 20) a1 (i : Int))))]) rfl (fun H locs hP hD hS => ?_)
          have hlb2 := SI_lb (a := a1) (i := i + 1) hI (by omega) (by omega)
          rw [lb_s] at hP hD
          have hlk : lbR R a1 (i + 1) 10 0 = R 10 0 := rfl
          refine lv_aload_n hx hb dX10_leastBubbles_56 rfl (lv_at hl 1 rfl) ?_
          refine lv_aload_n hx hb dX10_leastBubbles_57 rfl (lv_at hl 1 rfl) ?_
          refine va_get (D := g) (ci := 10) (v := Value.ref (ma 2)) (C := RX10) (T := TX10) (N := 18) hx hb hts in_X10_leastBubbles_X10 hown hK.1 hP 0 (rfl) rfl 2 (by decide) (hts _ (List.mem_of_getElem? (i := 2) rfl) : (Cond.fieldLink RX10 13 "CordSealsModel" "trial" "[I").before _ s = true) (fun _ h9 => h9) rfl dX10_leastBubbles_58 ?_
          refine rw_V (As := [Value.ref (ma 2)]) (rest := []) ⟨hx, hb, hml, hown, hts⟩ (c_X10_fakes l g τ ma M_6 (ma 2) (lbR R a1 (i + 1)) hlb2 ) gX10_leastBubbles_X10_fakes cd_X10_fakes rfl rfl ⟨rfl, rfl⟩ ⟨Nat.le_of_ble_eq_true rfl, Nat.le_of_ble_eq_true rfl⟩ hK hP hD hS [0, 2] (rfl) (by decide) 0 rfl rfl rfl rfl hl rfl (Nat.le_of_ble_eq_true rfl) dX10_leastBubbles_61 ⟨Nat.le_of_ble_eq_true rfl, Nat.le_of_ble_eq_true rfl⟩ (fun v w h => by obtain ⟨-, M9, -, rfl⟩ := h; rfl) (fun v w1 H locs hZ hP hD hS => ?_)
          obtain ⟨rfl, M_8, hgM_8, rfl⟩ := hZ
          have hP : va_P g vwCl ([moO ma M_8, arC (ma 1) (τ 0) 291 (flR R), arC (ma 2) (τ 0) 291 (flR (lbR R a1 (i + 1)))]) H := hP
          have hD : va_D A ([moO ma M_8, arC (ma 1) (τ 0) 291 (flR R), arC (ma 2) (τ 0) 291 (flR (lbR R a1 (i + 1)))]) := hD
          have hfM_8_0 : M_8 0 = M_6 0 := hgM_8 0 (by decide)
          have hfM_8_5 : M_8 5 = M_6 5 := hgM_8 5 (by decide)
          have hfM_8_9 : M_8 9 = M_6 9 := hgM_8 9 (by decide)
          have hfM_8_10 : M_8 10 = M_6 10 := hgM_8 10 (by decide)
          have hfM_8_11 : M_8 11 = M_6 11 := hgM_8 11 (by decide)
          have hfM_8_12 : M_8 12 = M_6 12 := hgM_8 12 (by decide)
          have := cnt_le (fun s => decide (0 < rFk (lbR R a1 (i + 1)) s)) ((lbR R a1 (i + 1)) 10 0).toNat
          have hfks : rFks (lbR R a1 (i + 1)) ((lbR R a1 (i + 1)) 10 0).toNat = cnt (fun s => decide (0 < rFk (lbR R a1 (i + 1)) s)) ((lbR R a1 (i + 1)) 10 0).toNat := rfl
          refine tl_some ?_
          refine lv_iload_n hx hb dX10_leastBubbles_64 rfl (lv_at hl 3 rfl) ?_
          refine zi_icmp_gt (tgt := 70) hx hb ⟨by omega, by omega⟩ ⟨by omega, by omega⟩ dX10_leastBubbles_65 (by decide) (fun c_9 => ?_) (fun c_9 => ?_)
          · have _ := c_9
            refine zi_inc (v := ((i + 1 : Nat) : Int)) (lv' := [(3, Value.int (iI ((i + 1 : Nat) : Int))), (0, Value.ref (ma 0)), (1, Value.int (iI (a1 : Int))), (2, Value.int (iI k1))]) hx hb dX10_leastBubbles_70 hl (k := 0) rfl (by omega) (by decide) rfl (fun ls hl => ?_)
            refine lv_goto (tgt := 41) hx hb dX10_leastBubbles_73 (by decide) ?_
            have hb_10 : (((i + 1) : Nat) : Int) = ((i + 1 : Nat) : Int) := by first | rfl | omega | (simp [c_1, c_3, c_7, c_9]; done)
            exact ih_41 hl_i (M_8) (⟨AG_t (hJ_i.1) hgM_8, lt_step hI_i (decide_eq_false (by (have hz9 : rFks (lbR R a1 (i + 1)) (R 10 0).toNat = rFks (lbR R a1 (i + 1)) (lbR R a1 (i + 1) 10 0).toNat := rfl); omega))⟩) _ _ _ hP hD hS (lv_eq (lv_sub hl [0, 1, 2, 3] rfl) (by show [(3, Value.int (iI (((i + 1) : Nat) : Int))), (0, Value.ref (ma 0)), (1, Value.int (iI (a1 : Int))), (2, Value.int (iI k1))] = [(3, Value.int (iI ((i + 1 : Nat) : Int))), (0, Value.ref (ma 0)), (1, Value.int (iI (a1 : Int))), (2, Value.int (iI k1))]; rw [hb_10]))
          · have _ := c_9
            refine lv_iload_n hx hb dX10_leastBubbles_68 rfl (lv_at hl 0 rfl) ?_
            exact rw_iret hx hb hr hlocks hP hS (⟨M_8, (flR (lbR R a1 (i + 1))), by show (M_8 5) = M 5; first | rfl | omega, by show (M_8 9) = M 9; first | rfl | omega, rfl, Or.inr ⟨⟨⟨by omega, by omega⟩, by omega⟩, by (have hf : fst (lbP R a1 k1) 100 = i := fst_some hI_i (decide_eq_true (by (have hz9 : rFks (lbR R a1 (i + 1)) (R 10 0).toNat = rFks (lbR R a1 (i + 1)) (lbR R a1 (i + 1) 10 0).toNat := rfl); omega)) hl_i); show _ = some (Value.int (iI (lbN R a1 k1))); rw [lbN, hf, if_pos hl_i], by show (M_8 0) = 0; first | rfl | omega⟩⟩) dX10_leastBubbles_69
      · exact absurd c_5 (by decide)
