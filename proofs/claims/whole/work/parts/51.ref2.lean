theorem zand_b {a b : Int} (ha : 0 ≤ a) : 0 ≤ zand a b ∧ zand a b ≤ a := by
  unfold zand
  have := Nat.and_le_left (n := a.toNat) (m := b.toNat)
  omega
theorem rMask_b {R : Nat → Nat → Int} {s : Nat} (h : -1 ≤ R 13 s ∧ R 13 s ≤ 7) : 0 ≤ rMask R s ∧ rMask R s < 65536 := by
  have p : ∀ m, m < 8 → 0 < (2 : Int) ^ m ∧ (2 : Int) ^ m < 65536 := by decide
  unfold rMask
  split
  · omega
  · have := p (R 13 s).toNat (by omega)
    omega
theorem rTo_b {R : Nat → Nat → Int} (hB : HB R) {hi w : Int} (h : -1 ≤ hi ∧ hi < 65536) (i : Nat) : -2 ≤ rTo R hi w i ∧ rTo R hi w i < 65536 := by
  have := kLast_b hB (R 1 0).toNat (i + 1)
  unfold rTo
  split <;> omega
theorem rFr_b {R : Nat → Nat → Int} (hB : HB R) {lo w : Int} (h : -1 ≤ lo ∧ lo < 65536) (i : Nat) : -1 ≤ rFr R lo w i ∧ rFr R lo w i < 65536 := by
  have := hB 2 i
  unfold rFr
  split <;> omega
theorem rL_b {R : Nat → Nat → Int} (hB : HB R) {lo hi w : Int} (h : -1 ≤ hi ∧ hi < 65536) : ∀ i, -2 ≤ rL R lo hi w i ∧ rL R lo hi w i < 65536
  | 0 => by show -2 ≤ (-1 : Int) ∧ (-1 : Int) < 65536; decide
  | i + 1 => by
    have := rL_b hB (lo := lo) (w := w) h i
    have := rTo_b hB (w := w) h i
    unfold rL
    split <;> omega
theorem rC_b {R : Nat → Nat → Int} (hB : HB R) {lo hi w : Int} (h0 : -1 ≤ lo ∧ lo < 65536) (h : -1 ≤ hi ∧ hi < 65536) : ∀ i : Nat, 0 ≤ rC R lo hi w i ∧ rC R lo hi w i ≤ 65540 * (i : Int)
  | 0 => by show 0 ≤ (0 : Int) ∧ (0 : Int) ≤ 65540 * ((0 : Nat) : Int); decide
  | i + 1 => by
    have a := rC_b hB (w := w) h0 h i
    have b := rTo_b hB (w := w) h i
    have d := rFr_b hB (w := w) h0 i
    unfold rC
    split
    · rename_i q
      unfold rOk at q
      rw [Bool.and_eq_true_iff] at q
      have := of_decide_eq_true q.1
      omega
    · omega
theorem rN_b {R : Nat → Nat → Int} (hI : SI R) (w : Int) : rN R w = 1 ∧ w = 0 ∨ ¬ w = 0 ∧ (rN R w : Int) = R 1 0 := by
  have := hI.r
  unfold rN
  split
  · left; omega
  · right; omega
theorem rY_b {R : Nat → Nat → Int} (hI : SI R) {lo hi w : Int} (h0 : -1 ≤ lo ∧ lo < 65536) (h : -1 ≤ hi ∧ hi < 65536) (q : Int) : -2 ≤ rY R lo hi w q ∧ rY R lo hi w q < 1000000 := by
  have n := rN_b hI w
  have r := hI.r
  have a := rF_r hI.hB (hi := hi) (w := w) h0 (rN R w)
  have b := rL_b hI.hB (lo := lo) (w := w) h (rN R w)
  have d := rC_b hI.hB (w := w) h0 h (rN R w)
  unfold rY
  split
  · omega
  · split <;> omega
def ownA (R : Nat → Nat → Int) (s : Nat) : Int := if R 20 (R 12 s).toNat < R 14 s then 1 else if rY R 1000 1999 (rMask R s) 2 = 0 then 2 else if rY R (sLo R s) (sHi R s) (rMask R s) 2 = 0 then 3 else 0
theorem sLo_b {R : Nat → Nat → Int} (hI : SI R) (s : Nat) : -1 ≤ sLo R s ∧ sLo R s < 65536 := dFirst_b hI.hB _ _ _
theorem sHi_b {R : Nat → Nat → Int} (hI : SI R) (s : Nat) : -1 ≤ sHi R s ∧ sHi R s < 65536 := dLast_b hI.hB _ _ _

theorem cd_X10_has : cd yX10_has 2 := by decide +kernel
set_option maxHeartbeats 1000000 in
set_option maxRecDepth 100000 in
theorem c_X10_has (l : Launch) (g : va_G) (τ : Nat → ClassId) (x : Int) (k : Nat) (hx0 : 0 ≤ x ∧ x < 65536) (hk : k < 31)  : Met l yX10_has wsX10_has { frames := 0, cells := 0, slots := 0, locals := 0 } (va_Pc [Value.int (iI x), Value.int (iI (k : Int))] (roW g τ ([]))) (roQ (some (Value.int (iI (zB (zbit x k)))))) 0 0 nof := by
  refine roMet (cc := cX10_has) (maxL := 2) (ret := (some .boolean)) (lv := [(0, Value.int (iI x)), (1, Value.int (iI (k : Int)))]) (by decide) rfl (Nat.le_of_ble_eq_true rfl) rfl ?_
  intro p e s m below meth c hx hb hr hml hts hown hlocks hP hK ls hl
  refine lv_iload_n hx hb dX10_has_0 rfl (lv_at hl 0 rfl) ?_
  refine lv_iload_n hx hb dX10_has_1 rfl (lv_at hl 1 rfl) ?_
  refine zi_bit (k) (rfl) (by omega) ⟨by omega, by omega⟩ hx hb dX10_has_2 dX10_has_3 dX10_has_4 ?_
  refine lv_iconst (v := iI 1) hx hb dX10_has_5 (by decide) ?_
  have hzb : zB (zbit x k) = 0 ∨ zB (zbit x k) = 1 := by cases zbit x k <;> first | exact Or.inl rfl | exact Or.inr rfl
  refine zi_icmp_ne (tgt := 13) hx hb ⟨by omega, by omega⟩ ⟨by decide, by decide⟩ dX10_has_6 (by decide) (fun c_1 => ?_) (fun c_1 => ?_)
  · have _ := c_1
    refine lv_iconst (v := iI 0) hx hb dX10_has_13 (by decide) ?_
    exact zo_zret hx hb hr hlocks (by omega) dX10_has_14
  · have _ := c_1
    refine lv_iconst (v := iI 1) hx hb dX10_has_9 (by decide) ?_
    refine lv_goto (tgt := 14) hx hb dX10_has_10 (by decide) ?_
    exact zo_zret hx hb hr hlocks (by omega) dX10_has_14

theorem cd_X10_lowOf : cd yX10_lowOf 2 := by decide +kernel
set_option maxHeartbeats 1000000 in
set_option maxRecDepth 100000 in
theorem c_X10_lowOf (l : Launch) (g : va_G) (τ : Nat → ClassId) (fa : Nat) (R : Nat → Nat → Int) (hI : SI R) (s1 : Nat) (hs : (s1 : Int) < R 10 0)  : Met l yX10_lowOf wsX10_lowOf { frames := 1, cells := 0, slots := 0, locals := 21 } (va_Pc [Value.ref fa, Value.int (iI (s1 : Int))] (roW g τ (flW fa R τ))) (roQ (some (Value.int (iI (sLo R s1))))) 0 0 nof := by
  have hB := hI.hB
  have hr0 := hI.r
  have hd0 := hI.d
  have hs0 := hI.s
  have hsl := hI.sl s1 hs
  have hdl := hI.ds (R 11 s1).toNat (by omega)
  refine roMet (cc := cX10_lowOf) (maxL := 6) (ret := (some .int)) (lv := [(0, Value.ref fa), (1, Value.int (iI (s1 : Int)))]) (by decide) rfl (Nat.le_of_ble_eq_true rfl) rfl ?_
  intro p e s m below meth c hx hb hr hml hts hown hlocks hP hK ls hl
  refine lv_aload_n hx hb dX10_lowOf_0 rfl (lv_at hl 0 rfl) ?_
  refine lv_bipush (v := iI 105) hx hb dX10_lowOf_1 (by decide) ?_
  refine lv_iload_n hx hb dX10_lowOf_3 rfl (lv_at hl 1 rfl) ?_
  refine zi_add hx hb dX10_lowOf_4 ?_
  refine zf_ald hx hb hK hP 0 (f := flR R) rfl (105 + s1) (by omega) (by omega) (by decide) (z := R 11 s1) (fl_11 (i := s1) (by omega) (by omega)) dX10_lowOf_5 ?_
  have hb_1 := hB 11 s1
  refine cv_i (y := iI (((R 11 s1).toNat : Nat) : Int)) (congrArg iI (by omega)) ?_
  refine lv_istore_n (lv' := [(2, Value.int (iI (((R 11 s1).toNat : Nat) : Int))), (0, Value.ref fa), (1, Value.int (iI (s1 : Int)))]) hx hb dX10_lowOf_6 rfl hl (by decide) rfl (fun ls hl => ?_)
  refine lv_aload_n hx hb dX10_lowOf_7 rfl (lv_at hl 1 rfl) ?_
  refine lv_bipush (v := iI 35) hx hb dX10_lowOf_8 (by decide) ?_
  refine lv_iload_n hx hb dX10_lowOf_10 rfl (lv_at hl 0 rfl) ?_
  refine zi_add hx hb dX10_lowOf_11 ?_
  refine zf_ald hx hb hK hP 0 (f := flR R) rfl (35 + ((R 11 s1).toNat)) (by omega) (by omega) (by decide) (z := R 6 ((R 11 s1).toNat)) (fl_6 (i := (R 11 s1).toNat) (by omega) (by omega)) dX10_lowOf_12 ?_
  have hb_2 := hB 6 ((R 11 s1).toNat)
  refine lv_istore_n (lv' := [(3, Value.int (iI (R 6 ((R 11 s1).toNat)))), (2, Value.int (iI (((R 11 s1).toNat : Nat) : Int))), (0, Value.ref fa), (1, Value.int (iI (s1 : Int)))]) hx hb dX10_lowOf_13 rfl hl (by decide) rfl (fun ls hl => ?_)
  refine lv_iconst (v := iI 0) hx hb dX10_lowOf_14 (by decide) ?_
  refine lv_istore (lv' := [(4, Value.int (iI 0)), (3, Value.int (iI (R 6 ((R 11 s1).toNat)))), (2, Value.int (iI (((R 11 s1).toNat : Nat) : Int))), (0, Value.ref fa), (1, Value.int (iI (s1 : Int)))]) hx hb dX10_lowOf_15 hl (by decide) rfl (fun ls hl => ?_)
  have h0_3 : dFirst R (R 11 s1).toNat (R 15 s1) 0 = R 6 ((R 11 s1).toNat) := by first | rfl | omega | (simp []; done)
  refine lp_up (fun i => [(4, Value.int (iI (i : Int))), (3, Value.int (iI (dFirst R (R 11 s1).toNat (R 15 s1) i))), (2, Value.int (iI (((R 11 s1).toNat : Nat) : Int))), (0, Value.ref fa), (1, Value.int (iI (s1 : Int)))]) (fun i => True) ((R 8 (R 11 s1).toNat).toNat) (0) (by omega) (by first | trivial | (intro j hj; omega)) (lv_eq (lv_sub hl [0, 1, 2, 3, 4] rfl) (by show [(4, Value.int (iI 0)), (3, Value.int (iI (dFirst R (R 11 s1).toNat (R 15 s1) 0))), (2, Value.int (iI (((R 11 s1).toNat : Nat) : Int))), (0, Value.ref fa), (1, Value.int (iI (s1 : Int)))] = [(4, Value.int (iI 0)), (3, Value.int (iI (R 6 ((R 11 s1).toNat)))), (2, Value.int (iI (((R 11 s1).toNat : Nat) : Int))), (0, Value.ref fa), (1, Value.int (iI (s1 : Int)))]; rw [h0_3])) (fun i h0_i hi_i hI_i ih_17 ls hl => ?_)
  have hp := dFirst_b hB (R 11 s1).toNat (R 15 s1) i
  refine lv_iload hx hb dX10_lowOf_17 (lv_at hl 0 rfl) ?_
  refine lv_aload_n hx hb dX10_lowOf_19 rfl (lv_at hl 3 rfl) ?_
  refine lv_bipush (v := iI 55) hx hb dX10_lowOf_20 (by decide) ?_
  refine lv_iload_n hx hb dX10_lowOf_22 rfl (lv_at hl 2 rfl) ?_
  refine zi_add hx hb dX10_lowOf_23 ?_
  refine zf_ald hx hb hK hP 0 (f := flR R) rfl (55 + ((R 11 s1).toNat)) (by omega) (by omega) (by decide) (z := R 8 ((R 11 s1).toNat)) (fl_8 (i := (R 11 s1).toNat) (by omega) (by omega)) dX10_lowOf_24 ?_
  have hb_4 := hB 8 ((R 11 s1).toNat)
  refine zi_icmp_ge (tgt := 75) hx hb ⟨by omega, by omega⟩ ⟨by omega, by omega⟩ dX10_lowOf_25 (by decide) (fun c_5 => ?_) (fun c_5 => ?_)
  · have _ := c_5
    have h0_i : i = (R 8 (R 11 s1).toNat).toNat := by omega
    refine lv_iload_n hx hb dX10_lowOf_75 rfl (lv_at hl 1 rfl) ?_
    exact zo_iret hx hb hr hlocks (by rw [h0_i]; rfl) dX10_lowOf_76
  · have _ := c_5
    have hl_i : i < (R 8 (R 11 s1).toNat).toNat := by omega
    refine lv_aload_n hx hb dX10_lowOf_28 rfl (lv_at hl 3 rfl) ?_
    refine lv_bipush (v := iI 65) hx hb dX10_lowOf_29 (by decide) ?_
    refine lv_iconst (v := iI 4) hx hb dX10_lowOf_31 (by decide) ?_
    refine lv_iload_n hx hb dX10_lowOf_32 rfl (lv_at hl 2 rfl) ?_
    refine zi_mul hx hb dX10_lowOf_33 ?_
    refine zi_add hx hb dX10_lowOf_34 ?_
    refine lv_iload hx hb dX10_lowOf_35 (lv_at hl 0 rfl) ?_
    refine zi_add hx hb dX10_lowOf_37 ?_
    refine zf_ald hx hb hK hP 0 (f := flR R) rfl ((65 + (4 * ((R 11 s1).toNat))) + i) (by omega) (by omega) (by decide) (z := R 9 (((R 11 s1).toNat) * 4 + i)) (fl_9 (i := ((R 11 s1).toNat) * 4 + i) (by omega) (by omega)) dX10_lowOf_38 ?_
    have hb_6 := hB 9 (((R 11 s1).toNat) * 4 + i)
    refine lv_istore (lv' := [(5, Value.int (iI (R 9 (((R 11 s1).toNat) * 4 + i)))), (4, Value.int (iI (i : Int))), (3, Value.int (iI (dFirst R (R 11 s1).toNat (R 15 s1) i))), (2, Value.int (iI (((R 11 s1).toNat : Nat) : Int))), (0, Value.ref fa), (1, Value.int (iI (s1 : Int)))]) hx hb dX10_lowOf_39 hl (by decide) rfl (fun ls hl => ?_)
    refine lv_aload_n hx hb dX10_lowOf_41 rfl (lv_at hl 4 rfl) ?_
    refine lv_sipush (v := iI 201) hx hb dX10_lowOf_42 (by decide) ?_
    refine lv_iload_n hx hb dX10_lowOf_45 rfl (lv_at hl 5 rfl) ?_
    refine zi_add hx hb dX10_lowOf_46 ?_
    refine zf_ald hx hb hK hP 0 (f := flR R) rfl (201 + s1) (by omega) (by omega) (by decide) (z := R 15 s1) (fl_15 (i := s1) (by omega) (by omega)) dX10_lowOf_47 ?_
    have hb_7 := hB 15 s1
    refine lv_iload hx hb dX10_lowOf_48 (lv_at hl 1 rfl) ?_
    refine ro_S (As := [Value.int (iI (R 15 s1)), Value.int (iI (i : Int))]) (rest := []) (v := some (Value.int (iI (zB (zbit (R 15 s1) i))))) ⟨hx, hb, hml, hown, hts⟩ (c_X10_has l g τ (R 15 s1) i (by omega) (by omega)) gX10_lowOf_X10_has cd_X10_has rfl ⟨rfl, rfl⟩ ⟨Nat.le_of_ble_eq_true rfl, Nat.le_of_ble_eq_true rfl⟩ hK (fun _ _ h => by cases h) rfl hl rfl (Nat.le_of_ble_eq_true rfl) dX10_lowOf_50 ⟨Nat.le_of_ble_eq_true rfl, Nat.le_of_ble_eq_true rfl⟩ ?_
    refine tl_some ?_
    refine zb_if_eq (tgt := 67) hx hb dX10_lowOf_53 (by decide) (fun c_8 => ?_) (fun c_8 => ?_)
    · have _ := c_8
      refine lv_iload_n hx hb dX10_lowOf_67 rfl (lv_at hl 2 rfl) ?_
      refine lv_istore_n (lv' := [(3, Value.int (iI (dFirst R (R 11 s1).toNat (R 15 s1) i))), (5, Value.int (iI (R 9 (((R 11 s1).toNat) * 4 + i)))), (4, Value.int (iI (i : Int))), (2, Value.int (iI (((R 11 s1).toNat : Nat) : Int))), (0, Value.ref fa), (1, Value.int (iI (s1 : Int)))]) hx hb dX10_lowOf_68 rfl hl (by decide) rfl (fun ls hl => ?_)
      refine zi_inc (v := ((i + 1 : Nat) : Int)) (lv' := [(4, Value.int (iI ((i + 1 : Nat) : Int))), (3, Value.int (iI (dFirst R (R 11 s1).toNat (R 15 s1) i))), (5, Value.int (iI (R 9 (((R 11 s1).toNat) * 4 + i)))), (2, Value.int (iI (((R 11 s1).toNat : Nat) : Int))), (0, Value.ref fa), (1, Value.int (iI (s1 : Int)))]) hx hb dX10_lowOf_69 hl (k := 2) rfl (by omega) (by decide) rfl (fun ls hl => ?_)
      refine lv_goto (tgt := 17) hx hb dX10_lowOf_72 (by decide) ?_
      have hb_9 : (((i + 1) : Nat) : Int) = ((i + 1 : Nat) : Int) := by first | rfl | omega | (simp [c_5, c_8]; done)
      have hb_10 : dFirst R (R 11 s1).toNat (R 15 s1) (i + 1) = dFirst R (R 11 s1).toNat (R 15 s1) i := by first | (rw [dFirst, if_pos (by assumption)]; omega) | (rw [dFirst, if_pos (by assumption)]) | (rw [dFirst, if_neg (by rw [show zbit (R 15 s1) i = false from by assumption]; decide)]; omega) | (rw [dFirst, if_neg (by rw [show zbit (R 15 s1) i = false from by assumption]; decide)])
      exact ih_17 hl_i (trivial) _ (lv_eq (lv_sub hl [0, 1, 3, 4, 5] rfl) (by show [(4, Value.int (iI (((i + 1) : Nat) : Int))), (3, Value.int (iI (dFirst R (R 11 s1).toNat (R 15 s1) (i + 1)))), (2, Value.int (iI (((R 11 s1).toNat : Nat) : Int))), (0, Value.ref fa), (1, Value.int (iI (s1 : Int)))] = [(4, Value.int (iI ((i + 1 : Nat) : Int))), (3, Value.int (iI (dFirst R (R 11 s1).toNat (R 15 s1) i))), (2, Value.int (iI (((R 11 s1).toNat : Nat) : Int))), (0, Value.ref fa), (1, Value.int (iI (s1 : Int)))]; rw [hb_9, hb_10]))
    · have _ := c_8
      refine lv_iload hx hb dX10_lowOf_56 (lv_at hl 0 rfl) ?_
      refine lv_iload_n hx hb dX10_lowOf_58 rfl (lv_at hl 2 rfl) ?_
      refine zi_icmp_le (tgt := 67) hx hb ⟨by omega, by omega⟩ ⟨by omega, by omega⟩ dX10_lowOf_59 (by decide) (fun c_11 => ?_) (fun c_11 => ?_)
      · have _ := c_11
        refine lv_iload_n hx hb dX10_lowOf_67 rfl (lv_at hl 2 rfl) ?_
        refine lv_istore_n (lv' := [(3, Value.int (iI (dFirst R (R 11 s1).toNat (R 15 s1) i))), (5, Value.int (iI (R 9 (((R 11 s1).toNat) * 4 + i)))), (4, Value.int (iI (i : Int))), (2, Value.int (iI (((R 11 s1).toNat : Nat) : Int))), (0, Value.ref fa), (1, Value.int (iI (s1 : Int)))]) hx hb dX10_lowOf_68 rfl hl (by decide) rfl (fun ls hl => ?_)
        refine zi_inc (v := ((i + 1 : Nat) : Int)) (lv' := [(4, Value.int (iI ((i + 1 : Nat) : Int))), (3, Value.int (iI (dFirst R (R 11 s1).toNat (R 15 s1) i))), (5, Value.int (iI (R 9 (((R 11 s1).toNat) * 4 + i)))), (2, Value.int (iI (((R 11 s1).toNat : Nat) : Int))), (0, Value.ref fa), (1, Value.int (iI (s1 : Int)))]) hx hb dX10_lowOf_69 hl (k := 2) rfl (by omega) (by decide) rfl (fun ls hl => ?_)
        refine lv_goto (tgt := 17) hx hb dX10_lowOf_72 (by decide) ?_
        have hb_12 : (((i + 1) : Nat) : Int) = ((i + 1 : Nat) : Int) := by first | rfl | omega | (simp [c_5, c_8, c_11]; done)
        have hb_13 : dFirst R (R 11 s1).toNat (R 15 s1) (i + 1) = dFirst R (R 11 s1).toNat (R 15 s1) i := by first | (rw [dFirst, if_pos (by assumption)]; omega) | (rw [dFirst, if_pos (by assumption)]) | (rw [dFirst, if_neg (by rw [show zbit (R 15 s1) i = false from by assumption]; decide)]; omega) | (rw [dFirst, if_neg (by rw [show zbit (R 15 s1) i = false from by assumption]; decide)])
        exact ih_17 hl_i (trivial) _ (lv_eq (lv_sub hl [0, 1, 3, 4, 5] rfl) (by show [(4, Value.int (iI (((i + 1) : Nat) : Int))), (3, Value.int (iI (dFirst R (R 11 s1).toNat (R 15 s1) (i + 1)))), (2, Value.int (iI (((R 11 s1).toNat : Nat) : Int))), (0, Value.ref fa), (1, Value.int (iI (s1 : Int)))] = [(4, Value.int (iI ((i + 1 : Nat) : Int))), (3, Value.int (iI (dFirst R (R 11 s1).toNat (R 15 s1) i))), (2, Value.int (iI (((R 11 s1).toNat : Nat) : Int))), (0, Value.ref fa), (1, Value.int (iI (s1 : Int)))]; rw [hb_12, hb_13]))
      · have _ := c_11
        refine lv_iload hx hb dX10_lowOf_62 (lv_at hl 0 rfl) ?_
        refine lv_goto (tgt := 68) hx hb dX10_lowOf_64 (by decide) ?_
        refine lv_istore_n (lv' := [(3, Value.int (iI (R 9 (((R 11 s1).toNat) * 4 + i)))), (5, Value.int (iI (R 9 (((R 11 s1).toNat) * 4 + i)))), (4, Value.int (iI (i : Int))), (2, Value.int (iI (((R 11 s1).toNat : Nat) : Int))), (0, Value.ref fa), (1, Value.int (iI (s1 : Int)))]) hx hb dX10_lowOf_68 rfl hl (by decide) rfl (fun ls hl => ?_)
        refine zi_inc (v := ((i + 1 : Nat) : Int)) (lv' := [(4, Value.int (iI ((i + 1 : Nat) : Int))), (3, Value.int (iI (R 9 (((R 11 s1).toNat) * 4 + i)))), (5, Value.int (iI (R 9 (((R 11 s1).toNat) * 4 + i)))), (2, Value.int (iI (((R 11 s1).toNat : Nat) : Int))), (0, Value.ref fa), (1, Value.int (iI (s1 : Int)))]) hx hb dX10_lowOf_69 hl (k := 2) rfl (by omega) (by decide) rfl (fun ls hl => ?_)
        refine lv_goto (tgt := 17) hx hb dX10_lowOf_72 (by decide) ?_
        have hb_14 : (((i + 1) : Nat) : Int) = ((i + 1 : Nat) : Int) := by first | rfl | omega | (simp [c_5, c_8, c_11]; done)
        have hb_15 : dFirst R (R 11 s1).toNat (R 15 s1) (i + 1) = R 9 (((R 11 s1).toNat) * 4 + i) := by first | (rw [dFirst, if_pos (by assumption)]; omega) | (rw [dFirst, if_pos (by assumption)]) | (rw [dFirst, if_neg (by rw [show zbit (R 15 s1) i = false from by assumption]; decide)]; omega) | (rw [dFirst, if_neg (by rw [show zbit (R 15 s1) i = false from by assumption]; decide)])
        exact ih_17 hl_i (trivial) _ (lv_eq (lv_sub hl [0, 1, 3, 4, 5] rfl) (by show [(4, Value.int (iI (((i + 1) : Nat) : Int))), (3, Value.int (iI (dFirst R (R 11 s1).toNat (R 15 s1) (i + 1)))), (2, Value.int (iI (((R 11 s1).toNat : Nat) : Int))), (0, Value.ref fa), (1, Value.int (iI (s1 : Int)))] = [(4, Value.int (iI ((i + 1 : Nat) : Int))), (3, Value.int (iI (R 9 (((R 11 s1).toNat) * 4 + i)))), (2, Value.int (iI (((R 11 s1).toNat : Nat) : Int))), (0, Value.ref fa), (1, Value.int (iI (s1 : Int)))]; rw [hb_14, hb_15]))

theorem cd_X10_highOf : cd yX10_highOf 2 := by decide +kernel
set_option maxHeartbeats 1000000 in
set_option maxRecDepth 100000 in
theorem c_X10_highOf (l : Launch) (g : va_G) (τ : Nat → ClassId) (fa : Nat) (R : Nat → Nat → Int) (hI : SI R) (s1 : Nat) (hs : (s1 : Int) < R 10 0)  : Met l yX10_highOf wsX10_highOf { frames := 1, cells := 0, slots := 0, locals := 21 } (va_Pc [Value.ref fa, Value.int (iI (s1 : Int))] (roW g τ (flW fa R τ))) (roQ (some (Value.int (iI (sHi R s1))))) 0 0 nof := by
  have hB := hI.hB
  have hr0 := hI.r
  have hd0 := hI.d
  have hs0 := hI.s
  have hsl := hI.sl s1 hs
  have hdl := hI.ds (R 11 s1).toNat (by omega)
  refine roMet (cc := cX10_highOf) (maxL := 6) (ret := (some .int)) (lv := [(0, Value.ref fa), (1, Value.int (iI (s1 : Int)))]) (by decide) rfl (Nat.le_of_ble_eq_true rfl) rfl ?_
  intro p e s m below meth c hx hb hr hml hts hown hlocks hP hK ls hl
  refine lv_aload_n hx hb dX10_highOf_0 rfl (lv_at hl 0 rfl) ?_
  refine lv_bipush (v := iI 105) hx hb dX10_highOf_1 (by decide) ?_
  refine lv_iload_n hx hb dX10_highOf_3 rfl (lv_at hl 1 rfl) ?_
  refine zi_add hx hb dX10_highOf_4 ?_
  refine zf_ald hx hb hK hP 0 (f := flR R) rfl (105 + s1) (by omega) (by omega) (by decide) (z := R 11 s1) (fl_11 (i := s1) (by omega) (by omega)) dX10_highOf_5 ?_
  have hb_1 := hB 11 s1
  refine cv_i (y := iI (((R 11 s1).toNat : Nat) : Int)) (congrArg iI (by omega)) ?_
  refine lv_istore_n (lv' := [(2, Value.int (iI (((R 11 s1).toNat : Nat) : Int))), (0, Value.ref fa), (1, Value.int (iI (s1 : Int)))]) hx hb dX10_highOf_6 rfl hl (by decide) rfl (fun ls hl => ?_)
  refine lv_aload_n hx hb dX10_highOf_7 rfl (lv_at hl 1 rfl) ?_
  refine lv_bipush (v := iI 45) hx hb dX10_highOf_8 (by decide) ?_
  refine lv_iload_n hx hb dX10_highOf_10 rfl (lv_at hl 0 rfl) ?_
  refine zi_add hx hb dX10_highOf_11 ?_
  refine zf_ald hx hb hK hP 0 (f := flR R) rfl (45 + ((R 11 s1).toNat)) (by omega) (by omega) (by decide) (z := R 7 ((R 11 s1).toNat)) (fl_7 (i := (R 11 s1).toNat) (by omega) (by omega)) dX10_highOf_12 ?_
  have hb_2 := hB 7 ((R 11 s1).toNat)
  refine lv_istore_n (lv' := [(3, Value.int (iI (R 7 ((R 11 s1).toNat)))), (2, Value.int (iI (((R 11 s1).toNat : Nat) : Int))), (0, Value.ref fa), (1, Value.int (iI (s1 : Int)))]) hx hb dX10_highOf_13 rfl hl (by decide) rfl (fun ls hl => ?_)
  refine lv_iconst (v := iI 0) hx hb dX10_highOf_14 (by decide) ?_
  refine lv_istore (lv' := [(4, Value.int (iI 0)), (3, Value.int (iI (R 7 ((R 11 s1).toNat)))), (2, Value.int (iI (((R 11 s1).toNat : Nat) : Int))), (0, Value.ref fa), (1, Value.int (iI (s1 : Int)))]) hx hb dX10_highOf_15 hl (by decide) rfl (fun ls hl => ?_)
  have h0_3 : dLast R (R 11 s1).toNat (R 15 s1) 0 = R 7 ((R 11 s1).toNat) := by first | rfl | omega | (simp []; done)
  refine lp_up (fun i => [(4, Value.int (iI (i : Int))), (3, Value.int (iI (dLast R (R 11 s1).toNat (R 15 s1) i))), (2, Value.int (iI (((R 11 s1).toNat : Nat) : Int))), (0, Value.ref fa), (1, Value.int (iI (s1 : Int)))]) (fun i => True) ((R 8 (R 11 s1).toNat).toNat) (0) (by omega) (by first | trivial | (intro j hj; omega)) (lv_eq (lv_sub hl [0, 1, 2, 3, 4] rfl) (by show [(4, Value.int (iI 0)), (3, Value.int (iI (dLast R (R 11 s1).toNat (R 15 s1) 0))), (2, Value.int (iI (((R 11 s1).toNat : Nat) : Int))), (0, Value.ref fa), (1, Value.int (iI (s1 : Int)))] = [(4, Value.int (iI 0)), (3, Value.int (iI (R 7 ((R 11 s1).toNat)))), (2, Value.int (iI (((R 11 s1).toNat : Nat) : Int))), (0, Value.ref fa), (1, Value.int (iI (s1 : Int)))]; rw [h0_3])) (fun i h0_i hi_i hI_i ih_17 ls hl => ?_)
  have hp := dLast_b hB (R 11 s1).toNat (R 15 s1) i
  refine lv_iload hx hb dX10_highOf_17 (lv_at hl 0 rfl) ?_
  refine lv_aload_n hx hb dX10_highOf_19 rfl (lv_at hl 3 rfl) ?_
  refine lv_bipush (v := iI 55) hx hb dX10_highOf_20 (by decide) ?_
  refine lv_iload_n hx hb dX10_highOf_22 rfl (lv_at hl 2 rfl) ?_
  refine zi_add hx hb dX10_highOf_23 ?_
  refine zf_ald hx hb hK hP 0 (f := flR R) rfl (55 + ((R 11 s1).toNat)) (by omega) (by omega) (by decide) (z := R 8 ((R 11 s1).toNat)) (fl_8 (i := (R 11 s1).toNat) (by omega) (by omega)) dX10_highOf_24 ?_
  have hb_4 := hB 8 ((R 11 s1).toNat)
  refine zi_icmp_ge (tgt := 75) hx hb ⟨by omega, by omega⟩ ⟨by omega, by omega⟩ dX10_highOf_25 (by decide) (fun c_5 => ?_) (fun c_5 => ?_)
  · have _ := c_5
    have h0_i : i = (R 8 (R 11 s1).toNat).toNat := by omega
    refine lv_iload_n hx hb dX10_highOf_75 rfl (lv_at hl 1 rfl) ?_
    exact zo_iret hx hb hr hlocks (by rw [h0_i]; rfl) dX10_highOf_76
  · have _ := c_5
    have hl_i : i < (R 8 (R 11 s1).toNat).toNat := by omega
    refine lv_aload_n hx hb dX10_highOf_28 rfl (lv_at hl 3 rfl) ?_
    refine lv_bipush (v := iI 65) hx hb dX10_highOf_29 (by decide) ?_
    refine lv_iconst (v := iI 4) hx hb dX10_highOf_31 (by decide) ?_
    refine lv_iload_n hx hb dX10_highOf_32 rfl (lv_at hl 2 rfl) ?_
    refine zi_mul hx hb dX10_highOf_33 ?_
    refine zi_add hx hb dX10_highOf_34 ?_
    refine lv_iload hx hb dX10_highOf_35 (lv_at hl 0 rfl) ?_
    refine zi_add hx hb dX10_highOf_37 ?_
    refine zf_ald hx hb hK hP 0 (f := flR R) rfl ((65 + (4 * ((R 11 s1).toNat))) + i) (by omega) (by omega) (by decide) (z := R 9 (((R 11 s1).toNat) * 4 + i)) (fl_9 (i := ((R 11 s1).toNat) * 4 + i) (by omega) (by omega)) dX10_highOf_38 ?_
    have hb_6 := hB 9 (((R 11 s1).toNat) * 4 + i)
    refine lv_istore (lv' := [(5, Value.int (iI (R 9 (((R 11 s1).toNat) * 4 + i)))), (4, Value.int (iI (i : Int))), (3, Value.int (iI (dLast R (R 11 s1).toNat (R 15 s1) i))), (2, Value.int (iI (((R 11 s1).toNat : Nat) : Int))), (0, Value.ref fa), (1, Value.int (iI (s1 : Int)))]) hx hb dX10_highOf_39 hl (by decide) rfl (fun ls hl => ?_)
    refine lv_aload_n hx hb dX10_highOf_41 rfl (lv_at hl 4 rfl) ?_
    refine lv_sipush (v := iI 201) hx hb dX10_highOf_42 (by decide) ?_
    refine lv_iload_n hx hb dX10_highOf_45 rfl (lv_at hl 5 rfl) ?_
    refine zi_add hx hb dX10_highOf_46 ?_
    refine zf_ald hx hb hK hP 0 (f := flR R) rfl (201 + s1) (by omega) (by omega) (by decide) (z := R 15 s1) (fl_15 (i := s1) (by omega) (by omega)) dX10_highOf_47 ?_
    have hb_7 := hB 15 s1
    refine lv_iload hx hb dX10_highOf_48 (lv_at hl 1 rfl) ?_
    refine ro_S (As := [Value.int (iI (R 15 s1)), Value.int (iI (i : Int))]) (rest := []) (v := some (Value.int (iI (zB (zbit (R 15 s1) i))))) ⟨hx, hb, hml, hown, hts⟩ (c_X10_has l g τ (R 15 s1) i (by omega) (by omega)) gX10_highOf_X10_has cd_X10_has rfl ⟨rfl, rfl⟩ ⟨Nat.le_of_ble_eq_true rfl, Nat.le_of_ble_eq_true rfl⟩ hK (fun _ _ h => by cases h) rfl hl rfl (Nat.le_of_ble_eq_true rfl) dX10_highOf_50 ⟨Nat.le_of_ble_eq_true rfl, Nat.le_of_ble_eq_true rfl⟩ ?_
    refine tl_some ?_
    refine zb_if_ne (tgt := 67) hx hb dX10_highOf_53 (by decide) (fun c_8 => ?_) (fun c_8 => ?_)
    · have _ := c_8
      refine lv_iload_n hx hb dX10_highOf_67 rfl (lv_at hl 2 rfl) ?_
      refine lv_istore_n (lv' := [(3, Value.int (iI (dLast R (R 11 s1).toNat (R 15 s1) i))), (5, Value.int (iI (R 9 (((R 11 s1).toNat) * 4 + i)))), (4, Value.int (iI (i : Int))), (2, Value.int (iI (((R 11 s1).toNat : Nat) : Int))), (0, Value.ref fa), (1, Value.int (iI (s1 : Int)))]) hx hb dX10_highOf_68 rfl hl (by decide) rfl (fun ls hl => ?_)
      refine zi_inc (v := ((i + 1 : Nat) : Int)) (lv' := [(4, Value.int (iI ((i + 1 : Nat) : Int))), (3, Value.int (iI (dLast R (R 11 s1).toNat (R 15 s1) i))), (5, Value.int (iI (R 9 (((R 11 s1).toNat) * 4 + i)))), (2, Value.int (iI (((R 11 s1).toNat : Nat) : Int))), (0, Value.ref fa), (1, Value.int (iI (s1 : Int)))]) hx hb dX10_highOf_69 hl (k := 2) rfl (by omega) (by decide) rfl (fun ls hl => ?_)
      refine lv_goto (tgt := 17) hx hb dX10_highOf_72 (by decide) ?_
      have hb_9 : (((i + 1) : Nat) : Int) = ((i + 1 : Nat) : Int) := by first | rfl | omega | (simp [c_5, c_8]; done)
      have hb_10 : dLast R (R 11 s1).toNat (R 15 s1) (i + 1) = dLast R (R 11 s1).toNat (R 15 s1) i := by first | (rw [dLast, if_pos (by assumption)]; omega) | (rw [dLast, if_pos (by assumption)]) | (rw [dLast, if_neg (by rw [show zbit (R 15 s1) i = false from by assumption]; decide)]; omega) | (rw [dLast, if_neg (by rw [show zbit (R 15 s1) i = false from by assumption]; decide)])
      exact ih_17 hl_i (trivial) _ (lv_eq (lv_sub hl [0, 1, 3, 4, 5] rfl) (by show [(4, Value.int (iI (((i + 1) : Nat) : Int))), (3, Value.int (iI (dLast R (R 11 s1).toNat (R 15 s1) (i + 1)))), (2, Value.int (iI (((R 11 s1).toNat : Nat) : Int))), (0, Value.ref fa), (1, Value.int (iI (s1 : Int)))] = [(4, Value.int (iI ((i + 1 : Nat) : Int))), (3, Value.int (iI (dLast R (R 11 s1).toNat (R 15 s1) i))), (2, Value.int (iI (((R 11 s1).toNat : Nat) : Int))), (0, Value.ref fa), (1, Value.int (iI (s1 : Int)))]; rw [hb_9, hb_10]))
    · have _ := c_8
      refine lv_iload hx hb dX10_highOf_56 (lv_at hl 0 rfl) ?_
      refine lv_iload_n hx hb dX10_highOf_58 rfl (lv_at hl 2 rfl) ?_
      refine zi_icmp_ge (tgt := 67) hx hb ⟨by omega, by omega⟩ ⟨by omega, by omega⟩ dX10_highOf_59 (by decide) (fun c_11 => ?_) (fun c_11 => ?_)
      · have _ := c_11
        refine lv_iload_n hx hb dX10_highOf_67 rfl (lv_at hl 2 rfl) ?_
        refine lv_istore_n (lv' := [(3, Value.int (iI (dLast R (R 11 s1).toNat (R 15 s1) i))), (5, Value.int (iI (R 9 (((R 11 s1).toNat) * 4 + i)))), (4, Value.int (iI (i : Int))), (2, Value.int (iI (((R 11 s1).toNat : Nat) : Int))), (0, Value.ref fa), (1, Value.int (iI (s1 : Int)))]) hx hb dX10_highOf_68 rfl hl (by decide) rfl (fun ls hl => ?_)
        refine zi_inc (v := ((i + 1 : Nat) : Int)) (lv' := [(4, Value.int (iI ((i + 1 : Nat) : Int))), (3, Value.int (iI (dLast R (R 11 s1).toNat (R 15 s1) i))), (5, Value.int (iI (R 9 (((R 11 s1).toNat) * 4 + i)))), (2, Value.int (iI (((R 11 s1).toNat : Nat) : Int))), (0, Value.ref fa), (1, Value.int (iI (s1 : Int)))]) hx hb dX10_highOf_69 hl (k := 2) rfl (by omega) (by decide) rfl (fun ls hl => ?_)
        refine lv_goto (tgt := 17) hx hb dX10_highOf_72 (by decide) ?_
        have hb_12 : (((i + 1) : Nat) : Int) = ((i + 1 : Nat) : Int) := by first | rfl | omega | (simp [c_5, c_8, c_11]; done)
        have hb_13 : dLast R (R 11 s1).toNat (R 15 s1) (i + 1) = dLast R (R 11 s1).toNat (R 15 s1) i := by first | (rw [dLast, if_pos (by assumption)]; omega) | (rw [dLast, if_pos (by assumption)]) | (rw [dLast, if_neg (by rw [show zbit (R 15 s1) i = false from by assumption]; decide)]; omega) | (rw [dLast, if_neg (by rw [show zbit (R 15 s1) i = false from by assumption]; decide)])
        exact ih_17 hl_i (trivial) _ (lv_eq (lv_sub hl [0, 1, 3, 4, 5] rfl) (by show [(4, Value.int (iI (((i + 1) : Nat) : Int))), (3, Value.int (iI (dLast R (R 11 s1).toNat (R 15 s1) (i + 1)))), (2, Value.int (iI (((R 11 s1).toNat : Nat) : Int))), (0, Value.ref fa), (1, Value.int (iI (s1 : Int)))] = [(4, Value.int (iI ((i + 1 : Nat) : Int))), (3, Value.int (iI (dLast R (R 11 s1).toNat (R 15 s1) i))), (2, Value.int (iI (((R 11 s1).toNat : Nat) : Int))), (0, Value.ref fa), (1, Value.int (iI (s1 : Int)))]; rw [hb_12, hb_13]))
      · have _ := c_11
        refine lv_iload hx hb dX10_highOf_62 (lv_at hl 0 rfl) ?_
        refine lv_goto (tgt := 68) hx hb dX10_highOf_64 (by decide) ?_
        refine lv_istore_n (lv' := [(3, Value.int (iI (R 9 (((R 11 s1).toNat) * 4 + i)))), (5, Value.int (iI (R 9 (((R 11 s1).toNat) * 4 + i)))), (4, Value.int (iI (i : Int))), (2, Value.int (iI (((R 11 s1).toNat : Nat) : Int))), (0, Value.ref fa), (1, Value.int (iI (s1 : Int)))]) hx hb dX10_highOf_68 rfl hl (by decide) rfl (fun ls hl => ?_)
        refine zi_inc (v := ((i + 1 : Nat) : Int)) (lv' := [(4, Value.int (iI ((i + 1 : Nat) : Int))), (3, Value.int (iI (R 9 (((R 11 s1).toNat) * 4 + i)))), (5, Value.int (iI (R 9 (((R 11 s1).toNat) * 4 + i)))), (2, Value.int (iI (((R 11 s1).toNat : Nat) : Int))), (0, Value.ref fa), (1, Value.int (iI (s1 : Int)))]) hx hb dX10_highOf_69 hl (k := 2) rfl (by omega) (by decide) rfl (fun ls hl => ?_)
        refine lv_goto (tgt := 17) hx hb dX10_highOf_72 (by decide) ?_
        have hb_14 : (((i + 1) : Nat) : Int) = ((i + 1 : Nat) : Int) := by first | rfl | omega | (simp [c_5, c_8, c_11]; done)
        have hb_15 : dLast R (R 11 s1).toNat (R 15 s1) (i + 1) = R 9 (((R 11 s1).toNat) * 4 + i) := by first | (rw [dLast, if_pos (by assumption)]; omega) | (rw [dLast, if_pos (by assumption)]) | (rw [dLast, if_neg (by rw [show zbit (R 15 s1) i = false from by assumption]; decide)]; omega) | (rw [dLast, if_neg (by rw [show zbit (R 15 s1) i = false from by assumption]; decide)])
        exact ih_17 hl_i (trivial) _ (lv_eq (lv_sub hl [0, 1, 3, 4, 5] rfl) (by show [(4, Value.int (iI (((i + 1) : Nat) : Int))), (3, Value.int (iI (dLast R (R 11 s1).toNat (R 15 s1) (i + 1)))), (2, Value.int (iI (((R 11 s1).toNat : Nat) : Int))), (0, Value.ref fa), (1, Value.int (iI (s1 : Int)))] = [(4, Value.int (iI ((i + 1 : Nat) : Int))), (3, Value.int (iI (R 9 (((R 11 s1).toNat) * 4 + i)))), (2, Value.int (iI (((R 11 s1).toNat : Nat) : Int))), (0, Value.ref fa), (1, Value.int (iI (s1 : Int)))]; rw [hb_14, hb_15]))

theorem cd_X10_maskOf : cd yX10_maskOf 2 := by decide +kernel
set_option maxHeartbeats 1000000 in
set_option maxRecDepth 100000 in
theorem c_X10_maskOf (l : Launch) (g : va_G) (τ : Nat → ClassId) (fa : Nat) (R : Nat → Nat → Int) (hI : SI R) (s1 : Nat) (hs : (s1 : Int) < R 10 0)  : Met l yX10_maskOf wsX10_maskOf { frames := 0, cells := 0, slots := 0, locals := 0 } (va_Pc [Value.ref fa, Value.int (iI (s1 : Int))] (roW g τ (flW fa R τ))) (roQ (some (Value.int (iI (rMask R s1))))) 0 0 nof := by
  have hB := hI.hB
  have hr0 := hI.r
  have hd0 := hI.d
  have hs0 := hI.s
  have hsl := hI.sl s1 hs
  have hdl := hI.ds (R 11 s1).toNat (by omega)
  refine roMet (cc := cX10_maskOf) (maxL := 2) (ret := (some .int)) (lv := [(0, Value.ref fa), (1, Value.int (iI (s1 : Int)))]) (by decide) rfl (Nat.le_of_ble_eq_true rfl) rfl ?_
  intro p e s m below meth c hx hb hr hml hts hown hlocks hP hK ls hl
  refine lv_aload_n hx hb dX10_maskOf_0 rfl (lv_at hl 0 rfl) ?_
  refine lv_sipush (v := iI 153) hx hb dX10_maskOf_1 (by decide) ?_
  refine lv_iload_n hx hb dX10_maskOf_4 rfl (lv_at hl 1 rfl) ?_
  refine zi_add hx hb dX10_maskOf_5 ?_
  refine zf_ald hx hb hK hP 0 (f := flR R) rfl (153 + s1) (by omega) (by omega) (by decide) (z := R 13 s1) (fl_13 (i := s1) (by omega) (by omega)) dX10_maskOf_6 ?_
  have hb_1 := hB 13 s1
  refine lv_iconst (v := iI (-1)) hx hb dX10_maskOf_7 (by decide) ?_
  refine zi_icmp_ne (tgt := 15) hx hb ⟨by omega, by omega⟩ ⟨by decide, by decide⟩ dX10_maskOf_8 (by decide) (fun c_2 => ?_) (fun c_2 => ?_)
  · have _ := c_2
    refine lv_iconst (v := iI 1) hx hb dX10_maskOf_15 (by decide) ?_
    refine lv_aload_n hx hb dX10_maskOf_16 rfl (lv_at hl 0 rfl) ?_
    refine lv_sipush (v := iI 153) hx hb dX10_maskOf_17 (by decide) ?_
    refine lv_iload_n hx hb dX10_maskOf_20 rfl (lv_at hl 1 rfl) ?_
    refine zi_add hx hb dX10_maskOf_21 ?_
    refine zf_ald hx hb hK hP 0 (f := flR R) rfl (153 + s1) (by omega) (by omega) (by decide) (z := R 13 s1) (fl_13 (i := s1) (by omega) (by omega)) dX10_maskOf_22 ?_
    have hb_3 := hB 13 s1
    refine zi_shl1 ((R 13 s1).toNat) (by omega) (by omega) hx hb dX10_maskOf_23 ?_
    exact zo_iret hx hb hr hlocks (by first | (rw [rMask, if_pos (by assumption)]) | (rw [rMask, if_neg (by assumption)])) dX10_maskOf_24
  · have _ := c_2
    refine lv_iconst (v := iI 0) hx hb dX10_maskOf_11 (by decide) ?_
    refine lv_goto (tgt := 24) hx hb dX10_maskOf_12 (by decide) ?_
    exact zo_iret hx hb hr hlocks (by first | (rw [rMask, if_pos (by assumption)]) | (rw [rMask, if_neg (by assumption)])) dX10_maskOf_24

theorem cd_X10_years : cd yX10_years 5 := by decide +kernel
set_option maxHeartbeats 4000000 in
set_option maxRecDepth 100000 in
theorem c_X10_years (l : Launch) (g : va_G) (τ : Nat → ClassId) (fa : Nat) (R : Nat → Nat → Int) (hI : SI R) (lo hi w q : Int) (hlo : -1 ≤ lo ∧ lo < 65536) (hhi : -1 ≤ hi ∧ hi < 65536) (hw : 0 ≤ w ∧ w < 65536) (hq : -2147483648 ≤ q ∧ q < 2147483648)  : Met l yX10_years wsX10_years { frames := 1, cells := 0, slots := 0, locals := 21 } (va_Pc [Value.ref fa, Value.int (iI lo), Value.int (iI hi), Value.int (iI w), Value.int (iI q)] (roW g τ (flW fa R τ))) (roQ (some (Value.int (iI (rY R lo hi w q))))) 0 0 nof := by
  have hB := hI.hB
  have hr0 := hI.r
  have hd0 := hI.d
  have hs0 := hI.s
  have hrn := rN_b hI w
  refine roMet (cc := cX10_years) (maxL := 12) (ret := (some .int)) (lv := [(0, Value.ref fa), (1, Value.int (iI lo)), (2, Value.int (iI hi)), (3, Value.int (iI w)), (4, Value.int (iI q))]) (by decide) rfl (Nat.le_of_ble_eq_true rfl) rfl ?_
  intro p e s m below meth c hx hb hr hml hts hown hlocks hP hK ls hl
  refine lv_iconst (v := iI (-1)) hx hb dX10_years_0 (by decide) ?_
  refine lv_istore (lv' := [(5, Value.int (iI (-1))), (0, Value.ref fa), (1, Value.int (iI lo)), (2, Value.int (iI hi)), (3, Value.int (iI w)), (4, Value.int (iI q))]) hx hb dX10_years_1 hl (by decide) rfl (fun ls hl => ?_)
  refine lv_iconst (v := iI (-1)) hx hb dX10_years_3 (by decide) ?_
  refine lv_istore (lv' := [(6, Value.int (iI (-1))), (5, Value.int (iI (-1))), (0, Value.ref fa), (1, Value.int (iI lo)), (2, Value.int (iI hi)), (3, Value.int (iI w)), (4, Value.int (iI q))]) hx hb dX10_years_4 hl (by decide) rfl (fun ls hl => ?_)
  refine lv_iconst (v := iI 0) hx hb dX10_years_6 (by decide) ?_
  refine lv_istore (lv' := [(7, Value.int (iI 0)), (6, Value.int (iI (-1))), (5, Value.int (iI (-1))), (0, Value.ref fa), (1, Value.int (iI lo)), (2, Value.int (iI hi)), (3, Value.int (iI w)), (4, Value.int (iI q))]) hx hb dX10_years_7 hl (by decide) rfl (fun ls hl => ?_)
  refine lv_iconst (v := iI 0) hx hb dX10_years_9 (by decide) ?_
  refine lv_istore (lv' := [(8, Value.int (iI 0)), (7, Value.int (iI 0)), (6, Value.int (iI (-1))), (5, Value.int (iI (-1))), (0, Value.ref fa), (1, Value.int (iI lo)), (2, Value.int (iI hi)), (3, Value.int (iI w)), (4, Value.int (iI q))]) hx hb dX10_years_10 hl (by decide) rfl (fun ls hl => ?_)
  have h0_1 : rC R lo hi w 0 = 0 := by first | rfl | omega | (simp []; done)
  have h0_2 : rL R lo hi w 0 = (-1) := by first | rfl | omega | (simp []; done)
  have h0_3 : rF R lo hi w 0 = (-1) := by first | rfl | omega | (simp []; done)
  refine lp_up (fun i => [(8, Value.int (iI (i : Int))), (7, Value.int (iI (rC R lo hi w i))), (6, Value.int (iI (rL R lo hi w i))), (5, Value.int (iI (rF R lo hi w i))), (0, Value.ref fa), (1, Value.int (iI lo)), (2, Value.int (iI hi)), (3, Value.int (iI w)), (4, Value.int (iI q))]) (fun i => True) (rN R w) (0) (by omega) (by first | trivial | (intro j hj; omega)) (lv_eq (lv_sub hl [0, 1, 2, 3, 4, 5, 6, 7, 8] rfl) (by show [(8, Value.int (iI 0)), (7, Value.int (iI (rC R lo hi w 0))), (6, Value.int (iI (rL R lo hi w 0))), (5, Value.int (iI (rF R lo hi w 0))), (0, Value.ref fa), (1, Value.int (iI lo)), (2, Value.int (iI hi)), (3, Value.int (iI w)), (4, Value.int (iI q))] = [(8, Value.int (iI 0)), (7, Value.int (iI 0)), (6, Value.int (iI (-1))), (5, Value.int (iI (-1))), (0, Value.ref fa), (1, Value.int (iI lo)), (2, Value.int (iI hi)), (3, Value.int (iI w)), (4, Value.int (iI q))]; rw [h0_1, h0_2, h0_3])) (fun i h0_i hi_i hI_i ih_12 ls hl => ?_)
  have hrf := rF_r hB (hi := hi) (w := w) hlo i
  have hrfr := rFr_b hB (w := w) hlo i
  have hrto := rTo_b hB (w := w) hhi i
  refine lv_iload hx hb dX10_years_12 (lv_at hl 0 rfl) ?_
  refine jn (F0 m 25 ls (Value.int (iI ((rN R w : Nat) : Int)) :: Value.int (iI (i : Int)) :: [])) ?_ (fun K => ?_)
  · skip
    refine zi_icmp_ge (tgt := 172) hx hb ⟨by omega, by omega⟩ ⟨by omega, by omega⟩ dX10_years_25 (by decide) (fun c_4 => ?_) (fun c_4 => ?_)
    · have _ := c_4
      have h0_i : i = rN R w := by omega
      refine lv_iload hx hb dX10_years_172 (lv_at hl 8 rfl) ?_
      refine zi_if_ne (tgt := 182) hx hb ⟨by omega, by omega⟩ dX10_years_174 (by decide) (fun c_5 => ?_) (fun c_5 => ?_)
      · have _ := c_5
        refine lv_iload hx hb dX10_years_182 (lv_at hl 8 rfl) ?_
        refine lv_iconst (v := iI 1) hx hb dX10_years_184 (by decide) ?_
        refine zi_icmp_ne (tgt := 193) hx hb ⟨by omega, by omega⟩ ⟨by decide, by decide⟩ dX10_years_185 (by decide) (fun c_6 => ?_) (fun c_6 => ?_)
        · have _ := c_6
          refine lv_iload hx hb dX10_years_193 (lv_at hl 1 rfl) ?_
          exact zo_iret hx hb hr hlocks (by rw [h0_i]; first | rw [rY, if_pos (by omega)] | rw [rY, if_neg (by omega), if_pos (by omega)] | rw [rY, if_neg (by omega), if_neg (by omega)]) dX10_years_195
        · have _ := c_6
          refine lv_iload hx hb dX10_years_188 (lv_at hl 2 rfl) ?_
          refine lv_goto (tgt := 195) hx hb dX10_years_190 (by decide) ?_
          exact zo_iret hx hb hr hlocks (by rw [h0_i]; first | rw [rY, if_pos (by omega)] | rw [rY, if_neg (by omega), if_pos (by omega)] | rw [rY, if_neg (by omega), if_neg (by omega)]) dX10_years_195
      · have _ := c_5
        refine lv_iload hx hb dX10_years_177 (lv_at hl 3 rfl) ?_
        refine lv_goto (tgt := 195) hx hb dX10_years_179 (by decide) ?_
        exact zo_iret hx hb hr hlocks (by rw [h0_i]; first | rw [rY, if_pos (by omega)] | rw [rY, if_neg (by omega), if_pos (by omega)] | rw [rY, if_neg (by omega), if_neg (by omega)]) dX10_years_195
    · have _ := c_4
      have hl_i : i < rN R w := by omega
      refine jn (F0 m 52 ls (Value.int (iI (rFr R lo w i)) :: [])) ?_ (fun K => ?_)
      · skip
        refine lv_istore (lv' := [(9, Value.int (iI (rFr R lo w i))), (8, Value.int (iI (i : Int))), (7, Value.int (iI (rC R lo hi w i))), (6, Value.int (iI (rL R lo hi w i))), (5, Value.int (iI (rF R lo hi w i))), (0, Value.ref fa), (1, Value.int (iI lo)), (2, Value.int (iI hi)), (3, Value.int (iI w)), (4, Value.int (iI q))]) hx hb dX10_years_52 hl (by decide) rfl (fun ls hl => ?_)
        refine jn (F0 m 78 ls (Value.int (iI (rTo R hi w i)) :: [])) ?_ (fun K => ?_)
        · skip
          refine lv_istore (lv' := [(10, Value.int (iI (rTo R hi w i))), (9, Value.int (iI (rFr R lo w i))), (8, Value.int (iI (i : Int))), (7, Value.int (iI (rC R lo hi w i))), (6, Value.int (iI (rL R lo hi w i))), (5, Value.int (iI (rF R lo hi w i))), (0, Value.ref fa), (1, Value.int (iI lo)), (2, Value.int (iI hi)), (3, Value.int (iI w)), (4, Value.int (iI q))]) hx hb dX10_years_78 hl (by decide) rfl (fun ls hl => ?_)
          refine jn (F0 m 109 ls (Value.int (iI (zB (rOk R lo hi w i))) :: [])) ?_ (fun K => ?_)
          · skip
            refine lv_istore (lv' := [(11, Value.int (iI (zB (rOk R lo hi w i)))), (10, Value.int (iI (rTo R hi w i))), (9, Value.int (iI (rFr R lo w i))), (8, Value.int (iI (i : Int))), (7, Value.int (iI (rC R lo hi w i))), (6, Value.int (iI (rL R lo hi w i))), (5, Value.int (iI (rF R lo hi w i))), (0, Value.ref fa), (1, Value.int (iI lo)), (2, Value.int (iI hi)), (3, Value.int (iI w)), (4, Value.int (iI q))]) hx hb dX10_years_109 hl (by decide) rfl (fun ls hl => ?_)
            refine jn (F0 m 129 ls (Value.int (iI (rF R lo hi w (i + 1))) :: [])) ?_ (fun K => ?_)
            · skip
              refine lv_istore (lv' := [(5, Value.int (iI (rF R lo hi w (i + 1)))), (11, Value.int (iI (zB (rOk R lo hi w i)))), (10, Value.int (iI (rTo R hi w i))), (9, Value.int (iI (rFr R lo w i))), (8, Value.int (iI (i : Int))), (7, Value.int (iI (rC R lo hi w i))), (6, Value.int (iI (rL R lo hi w i))), (0, Value.ref fa), (1, Value.int (iI lo)), (2, Value.int (iI hi)), (3, Value.int (iI w)), (4, Value.int (iI q))]) hx hb dX10_years_129 hl (by decide) rfl (fun ls hl => ?_)
              refine jn (F0 m 143 ls (Value.int (iI (rL R lo hi w (i + 1))) :: [])) ?_ (fun K => ?_)
              · skip
                refine lv_istore (lv' := [(6, Value.int (iI (rL R lo hi w (i + 1)))), (5, Value.int (iI (rF R lo hi w (i + 1)))), (11, Value.int (iI (zB (rOk R lo hi w i)))), (10, Value.int (iI (rTo R hi w i))), (9, Value.int (iI (rFr R lo w i))), (8, Value.int (iI (i : Int))), (7, Value.int (iI (rC R lo hi w i))), (0, Value.ref fa), (1, Value.int (iI lo)), (2, Value.int (iI hi)), (3, Value.int (iI w)), (4, Value.int (iI q))]) hx hb dX10_years_143 hl (by decide) rfl (fun ls hl => ?_)
                refine lv_iload hx hb dX10_years_145 (lv_at hl 6 rfl) ?_
                refine jn (F0 m 163 ls (Value.int (iI (if rOk R lo hi w i = true then rTo R hi w i - rFr R lo w i + 1 else 0)) :: Value.int (iI (rC R lo hi w i)) :: [])) ?_ (fun K => ?_)
                · skip
                  refine zi_add hx hb dX10_years_163 ?_
                  refine lv_istore (lv' := [(7, Value.int (iI ((rC R lo hi w i) + (if rOk R lo hi w i = true then rTo R hi w i - rFr R lo w i + 1 else 0)))), (6, Value.int (iI (rL R lo hi w (i + 1)))), (5, Value.int (iI (rF R lo hi w (i + 1)))), (11, Value.int (iI (zB (rOk R lo hi w i)))), (10, Value.int (iI (rTo R hi w i))), (9, Value.int (iI (rFr R lo w i))), (8, Value.int (iI (i : Int))), (0, Value.ref fa), (1, Value.int (iI lo)), (2, Value.int (iI hi)), (3, Value.int (iI w)), (4, Value.int (iI q))]) hx hb dX10_years_164 hl (by decide) rfl (fun ls hl => ?_)
                  refine zi_inc (v := ((i + 1 : Nat) : Int)) (lv' := [(8, Value.int (iI ((i + 1 : Nat) : Int))), (7, Value.int (iI ((rC R lo hi w i) + (if rOk R lo hi w i = true then rTo R hi w i - rFr R lo w i + 1 else 0)))), (6, Value.int (iI (rL R lo hi w (i + 1)))), (5, Value.int (iI (rF R lo hi w (i + 1)))), (11, Value.int (iI (zB (rOk R lo hi w i)))), (10, Value.int (iI (rTo R hi w i))), (9, Value.int (iI (rFr R lo w i))), (0, Value.ref fa), (1, Value.int (iI lo)), (2, Value.int (iI hi)), (3, Value.int (iI w)), (4, Value.int (iI q))]) hx hb dX10_years_166 hl (k := 6) rfl (by omega) (by decide) rfl (fun ls hl => ?_)
                  refine lv_goto (tgt := 12) hx hb dX10_years_169 (by decide) ?_
                  have hb_7 : (((i + 1) : Nat) : Int) = ((i + 1 : Nat) : Int) := by first | rfl | omega | (simp [c_4]; done)
                  have hb_8 : rC R lo hi w (i + 1) = (rC R lo hi w i) + (if rOk R lo hi w i = true then rTo R hi w i - rFr R lo w i + 1 else 0) := rfl
                  exact ih_12 hl_i (trivial) _ (lv_eq (lv_sub hl [0, 1, 2, 3, 7, 8, 9, 10, 11] rfl) (by show [(8, Value.int (iI (((i + 1) : Nat) : Int))), (7, Value.int (iI (rC R lo hi w (i + 1)))), (6, Value.int (iI (rL R lo hi w (i + 1)))), (5, Value.int (iI (rF R lo hi w (i + 1)))), (0, Value.ref fa), (1, Value.int (iI lo)), (2, Value.int (iI hi)), (3, Value.int (iI w)), (4, Value.int (iI q))] = [(8, Value.int (iI ((i + 1 : Nat) : Int))), (7, Value.int (iI ((rC R lo hi w i) + (if rOk R lo hi w i = true then rTo R hi w i - rFr R lo w i + 1 else 0)))), (6, Value.int (iI (rL R lo hi w (i + 1)))), (5, Value.int (iI (rF R lo hi w (i + 1)))), (0, Value.ref fa), (1, Value.int (iI lo)), (2, Value.int (iI hi)), (3, Value.int (iI w)), (4, Value.int (iI q))]; rw [hb_7, hb_8]))
                · skip
                  refine lv_iload hx hb dX10_years_147 (lv_at hl 2 rfl) ?_
                  refine zb_if_eq (tgt := 162) hx hb dX10_years_149 (by decide) (fun c_9 => ?_) (fun c_9 => ?_)
                  · have _ := c_9
                    refine lv_iconst (v := iI 0) hx hb dX10_years_162 (by decide) ?_
                    exact cv_i (congrArg iI (Eq.symm (show (if rOk R lo hi w i = true then rTo R hi w i - rFr R lo w i + 1 else 0) = 0 from by first | rw [if_pos (by assumption)] | rw [if_neg (by rw [show rOk R lo hi w i = false from by assumption]; decide)]))) K
                  · have _ := c_9
                    refine lv_iload hx hb dX10_years_152 (lv_at hl 3 rfl) ?_
                    refine lv_iload hx hb dX10_years_154 (lv_at hl 4 rfl) ?_
                    refine zi_sub hx hb dX10_years_156 ?_
                    refine lv_iconst (v := iI 1) hx hb dX10_years_157 (by decide) ?_
                    refine zi_add hx hb dX10_years_158 ?_
                    refine lv_goto (tgt := 163) hx hb dX10_years_159 (by decide) ?_
                    exact cv_i (congrArg iI (Eq.symm (show (if rOk R lo hi w i = true then rTo R hi w i - rFr R lo w i + 1 else 0) = (((rTo R hi w i) - (rFr R lo w i)) + 1) from by first | rw [if_pos (by assumption)] | rw [if_neg (by rw [show rOk R lo hi w i = false from by assumption]; decide)]))) K
              · skip
                refine lv_iload hx hb dX10_years_131 (lv_at hl 1 rfl) ?_
                refine zb_if_eq (tgt := 141) hx hb dX10_years_133 (by decide) (fun c_10 => ?_) (fun c_10 => ?_)
                · have _ := c_10
                  refine lv_iload hx hb dX10_years_141 (lv_at hl 6 rfl) ?_
                  exact cv_i (congrArg iI (Eq.symm (show (rL R lo hi w (i + 1)) = (rL R lo hi w i) from by rw [rL]; first | rw [if_pos (by assumption)] | rw [if_neg (by rw [show rOk R lo hi w i = false from by assumption]; decide)]))) K
                · have _ := c_10
                  refine lv_iload hx hb dX10_years_136 (lv_at hl 2 rfl) ?_
                  refine lv_goto (tgt := 143) hx hb dX10_years_138 (by decide) ?_
                  exact cv_i (congrArg iI (Eq.symm (show (rL R lo hi w (i + 1)) = (rTo R hi w i) from by rw [rL]; first | rw [if_pos (by assumption)] | rw [if_neg (by rw [show rOk R lo hi w i = false from by assumption]; decide)]))) K
            · skip
              refine lv_iload hx hb dX10_years_111 (lv_at hl 0 rfl) ?_
              refine zb_if_eq (tgt := 127) hx hb dX10_years_113 (by decide) (fun c_11 => ?_) (fun c_11 => ?_)
              · have _ := c_11
                refine lv_iload hx hb dX10_years_127 (lv_at hl 6 rfl) ?_
                exact cv_i (congrArg iI (Eq.symm (show (rF R lo hi w (i + 1)) = (rF R lo hi w i) from by rw [rF]; first | rw [if_pos ⟨by assumption, by omega⟩] | rw [if_neg (fun z => absurd z.2 (by omega))] | rw [if_neg (fun z => absurd z.1 (by rw [show rOk R lo hi w i = false from by assumption]; decide))]))) K
              · have _ := c_11
                refine lv_iload hx hb dX10_years_116 (lv_at hl 6 rfl) ?_
                refine lv_iconst (v := iI (-1)) hx hb dX10_years_118 (by decide) ?_
                refine zi_icmp_ne (tgt := 127) hx hb ⟨by omega, by omega⟩ ⟨by decide, by decide⟩ dX10_years_119 (by decide) (fun c_12 => ?_) (fun c_12 => ?_)
                · have _ := c_12
                  refine lv_iload hx hb dX10_years_127 (lv_at hl 6 rfl) ?_
                  exact cv_i (congrArg iI (Eq.symm (show (rF R lo hi w (i + 1)) = (rF R lo hi w i) from by rw [rF]; first | rw [if_pos ⟨by assumption, by omega⟩] | rw [if_neg (fun z => absurd z.2 (by omega))] | rw [if_neg (fun z => absurd z.1 (by rw [show rOk R lo hi w i = false from by assumption]; decide))]))) K
                · have _ := c_12
                  refine lv_iload hx hb dX10_years_122 (lv_at hl 2 rfl) ?_
                  refine lv_goto (tgt := 129) hx hb dX10_years_124 (by decide) ?_
                  exact cv_i (congrArg iI (Eq.symm (show (rF R lo hi w (i + 1)) = (rFr R lo w i) from by rw [rF]; first | rw [if_pos ⟨by assumption, by omega⟩] | rw [if_neg (fun z => absurd z.2 (by omega))] | rw [if_neg (fun z => absurd z.1 (by rw [show rOk R lo hi w i = false from by assumption]; decide))]))) K
          · skip
            refine lv_iload hx hb dX10_years_80 (lv_at hl 1 rfl) ?_
            refine lv_iload hx hb dX10_years_82 (lv_at hl 0 rfl) ?_
            refine zi_icmp_gt (tgt := 108) hx hb ⟨by omega, by omega⟩ ⟨by omega, by omega⟩ dX10_years_84 (by decide) (fun c_13 => ?_) (fun c_13 => ?_)
            · have _ := c_13
              refine lv_iconst (v := iI 0) hx hb dX10_years_108 (by decide) ?_
              exact cv_i (congrArg iI (Eq.symm (show (zB (rOk R lo hi w i)) = 0 from by first | (rw [show rOk R lo hi w i = true from by unfold rOk; rw [Bool.and_eq_true_iff]; exact ⟨decide_eq_true (by omega), by rw [Bool.or_eq_true_iff]; first | exact Or.inl (decide_eq_true (by omega)) | exact Or.inr (decide_eq_true (by assumption))⟩]; rfl) | (rw [show rOk R lo hi w i = false from by unfold rOk; rw [Bool.and_eq_false_iff]; first | exact Or.inl (decide_eq_false (by omega)) | exact Or.inr (by rw [Bool.or_eq_false_iff]; exact ⟨decide_eq_false (by omega), decide_eq_false (by assumption)⟩)]; rfl)))) K
            · have _ := c_13
              refine lv_iload_n hx hb dX10_years_87 rfl (lv_at hl 9 rfl) ?_
              refine zi_if_eq (tgt := 104) hx hb ⟨by omega, by omega⟩ dX10_years_88 (by decide) (fun c_14 => ?_) (fun c_14 => ?_)
              · have _ := c_14
                refine lv_iconst (v := iI 1) hx hb dX10_years_104 (by decide) ?_
                refine lv_goto (tgt := 109) hx hb dX10_years_105 (by decide) ?_
                exact cv_i (congrArg iI (Eq.symm (show (zB (rOk R lo hi w i)) = 1 from by first | (rw [show rOk R lo hi w i = true from by unfold rOk; rw [Bool.and_eq_true_iff]; exact ⟨decide_eq_true (by omega), by rw [Bool.or_eq_true_iff]; first | exact Or.inl (decide_eq_true (by omega)) | exact Or.inr (decide_eq_true (by assumption))⟩]; rfl) | (rw [show rOk R lo hi w i = false from by unfold rOk; rw [Bool.and_eq_false_iff]; first | exact Or.inl (decide_eq_false (by omega)) | exact Or.inr (by rw [Bool.or_eq_false_iff]; exact ⟨decide_eq_false (by omega), decide_eq_false (by assumption)⟩)]; rfl)))) K
              · have _ := c_14
                have hrg := hI.rg i (by omega)
                have hza := zand_b (a := R 3 i) (b := w) (by omega)
                refine lv_aload_n hx hb dX10_years_91 rfl (lv_at hl 6 rfl) ?_
                refine lv_bipush (v := iI 15) hx hb dX10_years_92 (by decide) ?_
                refine lv_iload hx hb dX10_years_94 (lv_at hl 2 rfl) ?_
                refine zi_add hx hb dX10_years_96 ?_
                refine zf_ald hx hb hK hP 0 (f := flR R) rfl (15 + i) (by omega) (by omega) (by decide) (z := R 3 i) (fl_3 (i := i) (by omega) (by omega)) dX10_years_97 ?_
                have hb_15 := hB 3 i
                refine lv_iload_n hx hb dX10_years_98 rfl (lv_at hl 9 rfl) ?_
                refine zi_and hx hb ⟨by omega, by omega⟩ dX10_years_99 ?_
                refine lv_iload_n hx hb dX10_years_100 rfl (lv_at hl 9 rfl) ?_
                refine zi_icmp_ne (tgt := 108) hx hb ⟨by omega, by omega⟩ ⟨by omega, by omega⟩ dX10_years_101 (by decide) (fun c_16 => ?_) (fun c_16 => ?_)
                · have _ := c_16
                  refine lv_iconst (v := iI 0) hx hb dX10_years_108 (by decide) ?_
                  exact cv_i (congrArg iI (Eq.symm (show (zB (rOk R lo hi w i)) = 0 from by first | (rw [show rOk R lo hi w i = true from by unfold rOk; rw [Bool.and_eq_true_iff]; exact ⟨decide_eq_true (by omega), by rw [Bool.or_eq_true_iff]; first | exact Or.inl (decide_eq_true (by omega)) | exact Or.inr (decide_eq_true (by assumption))⟩]; rfl) | (rw [show rOk R lo hi w i = false from by unfold rOk; rw [Bool.and_eq_false_iff]; first | exact Or.inl (decide_eq_false (by omega)) | exact Or.inr (by rw [Bool.or_eq_false_iff]; exact ⟨decide_eq_false (by omega), decide_eq_false (by assumption)⟩)]; rfl)))) K
                · have _ := c_16
                  refine lv_iconst (v := iI 1) hx hb dX10_years_104 (by decide) ?_
                  refine lv_goto (tgt := 109) hx hb dX10_years_105 (by decide) ?_
                  exact cv_i (congrArg iI (Eq.symm (show (zB (rOk R lo hi w i)) = 1 from by first | (rw [show rOk R lo hi w i = true from by unfold rOk; rw [Bool.and_eq_true_iff]; exact ⟨decide_eq_true (by omega), by rw [Bool.or_eq_true_iff]; first | exact Or.inl (decide_eq_true (by omega)) | exact Or.inr (decide_eq_true (by assumption))⟩]; rfl) | (rw [show rOk R lo hi w i = false from by unfold rOk; rw [Bool.and_eq_false_iff]; first | exact Or.inl (decide_eq_false (by omega)) | exact Or.inr (by rw [Bool.or_eq_false_iff]; exact ⟨decide_eq_false (by omega), decide_eq_false (by assumption)⟩)]; rfl)))) K
        · skip
          refine lv_iload_n hx hb dX10_years_54 rfl (lv_at hl 8 rfl) ?_
          refine zi_if_eq (tgt := 68) hx hb ⟨by omega, by omega⟩ dX10_years_55 (by decide) (fun c_17 => ?_) (fun c_17 => ?_)
          · have _ := c_17
            refine lv_iload_n hx hb dX10_years_68 rfl (lv_at hl 7 rfl) ?_
            refine lv_goto (tgt := 78) hx hb dX10_years_69 (by decide) ?_
            exact cv_i (congrArg iI (Eq.symm (show (rTo R hi w i) = hi from by unfold rTo; split <;> omega))) K
          · have _ := c_17
            refine lv_aload_n hx hb dX10_years_58 rfl (lv_at hl 5 rfl) ?_
            refine lv_iload hx hb dX10_years_59 (lv_at hl 1 rfl) ?_
            refine ro_S (As := [Value.ref fa, Value.int (iI (i : Int))]) (rest := []) (v := some (Value.int (iI (kLast R (R 1 0).toNat (i + 1))))) ⟨hx, hb, hml, hown, hts⟩ (c_X10_ends l g τ fa R hI i (by omega)) gX10_years_X10_ends cd_X10_ends rfl ⟨rfl, rfl⟩ ⟨Nat.le_of_ble_eq_true rfl, Nat.le_of_ble_eq_true rfl⟩ hK hP rfl hl rfl (Nat.le_of_ble_eq_true rfl) dX10_years_61 ⟨Nat.le_of_ble_eq_true rfl, Nat.le_of_ble_eq_true rfl⟩ ?_
            refine tl_some ?_
            have := kLast_b hB (R 1 0).toNat (i + 1)
            refine lv_iload_n hx hb dX10_years_64 rfl (lv_at hl 7 rfl) ?_
            refine zi_icmp_le (tgt := 72) hx hb ⟨by omega, by omega⟩ ⟨by omega, by omega⟩ dX10_years_65 (by decide) (fun c_18 => ?_) (fun c_18 => ?_)
            · have _ := c_18
              refine lv_aload_n hx hb dX10_years_72 rfl (lv_at hl 5 rfl) ?_
              refine lv_iload hx hb dX10_years_73 (lv_at hl 1 rfl) ?_
              refine ro_S (As := [Value.ref fa, Value.int (iI (i : Int))]) (rest := []) (v := some (Value.int (iI (kLast R (R 1 0).toNat (i + 1))))) ⟨hx, hb, hml, hown, hts⟩ (c_X10_ends l g τ fa R hI i (by omega)) gX10_years_X10_ends cd_X10_ends rfl ⟨rfl, rfl⟩ ⟨Nat.le_of_ble_eq_true rfl, Nat.le_of_ble_eq_true rfl⟩ hK hP rfl hl rfl (Nat.le_of_ble_eq_true rfl) dX10_years_75 ⟨Nat.le_of_ble_eq_true rfl, Nat.le_of_ble_eq_true rfl⟩ ?_
              refine tl_some ?_
              have := kLast_b hB (R 1 0).toNat (i + 1)
              exact cv_i (congrArg iI (Eq.symm (show (rTo R hi w i) = (kLast R (R 1 0).toNat (i + 1)) from by unfold rTo; split <;> omega))) K
            · have _ := c_18
              refine lv_iload_n hx hb dX10_years_68 rfl (lv_at hl 7 rfl) ?_
              refine lv_goto (tgt := 78) hx hb dX10_years_69 (by decide) ?_
              exact cv_i (congrArg iI (Eq.symm (show (rTo R hi w i) = hi from by unfold rTo; split <;> omega))) K
      · skip
        refine lv_iload_n hx hb dX10_years_28 rfl (lv_at hl 7 rfl) ?_
        refine zi_if_eq (tgt := 42) hx hb ⟨by omega, by omega⟩ dX10_years_29 (by decide) (fun c_19 => ?_) (fun c_19 => ?_)
        · have _ := c_19
          refine lv_iload_n hx hb dX10_years_42 rfl (lv_at hl 5 rfl) ?_
          refine lv_goto (tgt := 52) hx hb dX10_years_43 (by decide) ?_
          exact cv_i (congrArg iI (Eq.symm (show (rFr R lo w i) = lo from by unfold rFr; split <;> omega))) K
        · have _ := c_19
          refine lv_aload_n hx hb dX10_years_32 rfl (lv_at hl 4 rfl) ?_
          refine lv_iconst (v := iI 5) hx hb dX10_years_33 (by decide) ?_
          refine lv_iload hx hb dX10_years_34 (lv_at hl 0 rfl) ?_
          refine zi_add hx hb dX10_years_36 ?_
          refine zf_ald hx hb hK hP 0 (f := flR R) rfl (5 + i) (by omega) (by omega) (by decide) (z := R 2 i) (fl_2 (i := i) (by omega) (by omega)) dX10_years_37 ?_
          have hb_20 := hB 2 i
          refine lv_iload_n hx hb dX10_years_38 rfl (lv_at hl 5 rfl) ?_
          refine zi_icmp_ge (tgt := 46) hx hb ⟨by omega, by omega⟩ ⟨by omega, by omega⟩ dX10_years_39 (by decide) (fun c_21 => ?_) (fun c_21 => ?_)
          · have _ := c_21
            refine lv_aload_n hx hb dX10_years_46 rfl (lv_at hl 4 rfl) ?_
            refine lv_iconst (v := iI 5) hx hb dX10_years_47 (by decide) ?_
            refine lv_iload hx hb dX10_years_48 (lv_at hl 0 rfl) ?_
            refine zi_add hx hb dX10_years_50 ?_
            refine zf_ald hx hb hK hP 0 (f := flR R) rfl (5 + i) (by omega) (by omega) (by decide) (z := R 2 i) (fl_2 (i := i) (by omega) (by omega)) dX10_years_51 ?_
            have hb_22 := hB 2 i
            exact cv_i (congrArg iI (Eq.symm (show (rFr R lo w i) = (R 2 i) from by unfold rFr; split <;> omega))) K
          · have _ := c_21
            refine lv_iload_n hx hb dX10_years_42 rfl (lv_at hl 5 rfl) ?_
            refine lv_goto (tgt := 52) hx hb dX10_years_43 (by decide) ?_
            exact cv_i (congrArg iI (Eq.symm (show (rFr R lo w i) = lo from by unfold rFr; split <;> omega))) K
  · skip
    refine lv_iload_n hx hb dX10_years_14 rfl (lv_at hl 7 rfl) ?_
    refine zi_if_ne (tgt := 22) hx hb ⟨by omega, by omega⟩ dX10_years_15 (by decide) (fun c_23 => ?_) (fun c_23 => ?_)
    · have _ := c_23
      refine lv_aload_n hx hb dX10_years_22 rfl (lv_at hl 4 rfl) ?_
      refine lv_iconst (v := iI 0) hx hb dX10_years_23 (by decide) ?_
      refine zf_ald hx hb hK hP 0 (f := flR R) rfl (0) (rfl) (by omega) (by decide) (z := R 1 0) (fl_1) dX10_years_24 ?_
      have hb_24 := hB 1 0
      exact cv_i (congrArg iI (Eq.symm (show ((rN R w : Nat) : Int) = (R 1 0) from by omega))) K
    · have _ := c_23
      refine lv_iconst (v := iI 1) hx hb dX10_years_18 (by decide) ?_
      refine lv_goto (tgt := 25) hx hb dX10_years_19 (by decide) ?_
      exact cv_i (congrArg iI (Eq.symm (show ((rN R w : Nat) : Int) = 1 from by omega))) K

theorem cd_X10_yearsOf : cd yX10_yearsOf 3 := by decide +kernel
set_option maxHeartbeats 1000000 in
set_option maxRecDepth 100000 in
theorem c_X10_yearsOf (l : Launch) (g : va_G) (τ : Nat → ClassId) (fa : Nat) (R : Nat → Nat → Int) (hI : SI R) (s1 : Nat) (hs : (s1 : Int) < R 10 0) (q : Int) (hq : -2147483648 ≤ q ∧ q < 2147483648)  : Met l yX10_yearsOf wsX10_yearsOf { frames := 2, cells := 0, slots := 0, locals := 52 } (va_Pc [Value.ref fa, Value.int (iI (s1 : Int)), Value.int (iI q)] (roW g τ (flW fa R τ))) (roQ (some (Value.int (iI (rY R (sLo R s1) (sHi R s1) (rMask R s1) q))))) 0 0 nof := by
  have hB := hI.hB
  have hr0 := hI.r
  have hd0 := hI.d
  have hs0 := hI.s
  refine roMet (cc := cX10_yearsOf) (maxL := 3) (ret := (some .int)) (lv := [(0, Value.ref fa), (1, Value.int (iI (s1 : Int))), (2, Value.int (iI q))]) (by decide) rfl (Nat.le_of_ble_eq_true rfl) rfl ?_
  intro p e s m below meth c hx hb hr hml hts hown hlocks hP hK ls hl
  refine lv_aload_n hx hb dX10_yearsOf_0 rfl (lv_at hl 0 rfl) ?_
  refine lv_aload_n hx hb dX10_yearsOf_1 rfl (lv_at hl 0 rfl) ?_
  refine lv_iload_n hx hb dX10_yearsOf_2 rfl (lv_at hl 1 rfl) ?_
  refine ro_S (As := [Value.ref fa, Value.int (iI (s1 : Int))]) (rest := [Value.ref fa]) (v := some (Value.int (iI (sLo R s1)))) ⟨hx, hb, hml, hown, hts⟩ (c_X10_lowOf l g τ fa R hI s1 (by omega)) gX10_yearsOf_X10_lowOf cd_X10_lowOf rfl ⟨rfl, rfl⟩ ⟨Nat.le_of_ble_eq_true rfl, Nat.le_of_ble_eq_true rfl⟩ hK hP rfl hl rfl (Nat.le_of_ble_eq_true rfl) dX10_yearsOf_3 ⟨Nat.le_of_ble_eq_true rfl, Nat.le_of_ble_eq_true rfl⟩ ?_
  refine tl_some ?_
  have := sLo_b hI s1
  refine lv_aload_n hx hb dX10_yearsOf_6 rfl (lv_at hl 0 rfl) ?_
  refine lv_iload_n hx hb dX10_yearsOf_7 rfl (lv_at hl 1 rfl) ?_
  refine ro_S (As := [Value.ref fa, Value.int (iI (s1 : Int))]) (rest := [Value.int (iI (sLo R s1)), Value.ref fa]) (v := some (Value.int (iI (sHi R s1)))) ⟨hx, hb, hml, hown, hts⟩ (c_X10_highOf l g τ fa R hI s1 (by omega)) gX10_yearsOf_X10_highOf cd_X10_highOf rfl ⟨rfl, rfl⟩ ⟨Nat.le_of_ble_eq_true rfl, Nat.le_of_ble_eq_true rfl⟩ hK hP rfl hl rfl (Nat.le_of_ble_eq_true rfl) dX10_yearsOf_8 ⟨Nat.le_of_ble_eq_true rfl, Nat.le_of_ble_eq_true rfl⟩ ?_
  refine tl_some ?_
  have := sHi_b hI s1
  refine lv_aload_n hx hb dX10_yearsOf_11 rfl (lv_at hl 0 rfl) ?_
  refine lv_iload_n hx hb dX10_yearsOf_12 rfl (lv_at hl 1 rfl) ?_
  refine ro_S (As := [Value.ref fa, Value.int (iI (s1 : Int))]) (rest := [Value.int (iI (sHi R s1)), Value.int (iI (sLo R s1)), Value.ref fa]) (v := some (Value.int (iI (rMask R s1)))) ⟨hx, hb, hml, hown, hts⟩ (c_X10_maskOf l g τ fa R hI s1 (by omega)) gX10_yearsOf_X10_maskOf cd_X10_maskOf rfl ⟨rfl, rfl⟩ ⟨Nat.le_of_ble_eq_true rfl, Nat.le_of_ble_eq_true rfl⟩ hK hP rfl hl rfl (Nat.le_of_ble_eq_true rfl) dX10_yearsOf_13 ⟨Nat.le_of_ble_eq_true rfl, Nat.le_of_ble_eq_true rfl⟩ ?_
  refine tl_some ?_
  have := rMask_b (hI.sl s1 (by omega)).2.2.1
  refine lv_iload_n hx hb dX10_yearsOf_16 rfl (lv_at hl 2 rfl) ?_
  refine ro_S (As := [Value.ref fa, Value.int (iI (sLo R s1)), Value.int (iI (sHi R s1)), Value.int (iI (rMask R s1)), Value.int (iI q)]) (rest := []) (v := some (Value.int (iI (rY R (sLo R s1) (sHi R s1) (rMask R s1) q)))) ⟨hx, hb, hml, hown, hts⟩ (c_X10_years l g τ fa R hI (sLo R s1) (sHi R s1) (rMask R s1) q (by omega) (by omega) (by omega) (by omega)) gX10_yearsOf_X10_years cd_X10_years rfl ⟨rfl, rfl⟩ ⟨Nat.le_of_ble_eq_true rfl, Nat.le_of_ble_eq_true rfl⟩ hK hP rfl hl rfl (Nat.le_of_ble_eq_true rfl) dX10_yearsOf_17 ⟨Nat.le_of_ble_eq_true rfl, Nat.le_of_ble_eq_true rfl⟩ ?_
  refine tl_some ?_
  have := rY_b hI (lo := (sLo R s1)) (hi := (sHi R s1)) (w := (rMask R s1)) (by omega) (by omega) q
  exact zo_iret hx hb hr hlocks (rfl) dX10_yearsOf_20

theorem cd_X10_alone : cd yX10_alone 2 := by decide +kernel
set_option maxHeartbeats 1000000 in
set_option maxRecDepth 100000 in
theorem c_X10_alone (l : Launch) (g : va_G) (τ : Nat → ClassId) (fa : Nat) (R : Nat → Nat → Int) (hI : SI R) (s1 : Nat) (hs : (s1 : Int) < R 10 0)  : Met l yX10_alone wsX10_alone { frames := 3, cells := 0, slots := 0, locals := 74 } (va_Pc [Value.ref fa, Value.int (iI (s1 : Int))] (roW g τ (flW fa R τ))) (roQ (some (Value.int (iI (ownA R s1))))) 0 0 nof := by
  have hB := hI.hB
  have hr0 := hI.r
  have hd0 := hI.d
  have hs0 := hI.s
  have hsl := hI.sl s1 hs
  have hdl := hI.ds (R 11 s1).toNat (by omega)
  refine roMet (cc := cX10_alone) (maxL := 2) (ret := (some .int)) (lv := [(0, Value.ref fa), (1, Value.int (iI (s1 : Int)))]) (by decide) rfl (Nat.le_of_ble_eq_true rfl) rfl ?_
  intro p e s m below meth c hx hb hr hml hts hown hlocks hP hK ls hl
  refine lv_aload_n hx hb dX10_alone_0 rfl (lv_at hl 0 rfl) ?_
  refine lv_iload_n hx hb dX10_alone_1 rfl (lv_at hl 1 rfl) ?_
  refine ro_S (As := [Value.ref fa, Value.int (iI (s1 : Int))]) (rest := []) (v := some (Value.int (iI (zB (decide (R 20 (R 12 s1).toNat < R 14 s1)))))) ⟨hx, hb, hml, hown, hts⟩ (c_X10_isCast l g τ fa R hI s1 (by omega)) gX10_alone_X10_isCast cd_X10_isCast rfl ⟨rfl, rfl⟩ ⟨Nat.le_of_ble_eq_true rfl, Nat.le_of_ble_eq_true rfl⟩ hK hP rfl hl rfl (Nat.le_of_ble_eq_true rfl) dX10_alone_2 ⟨Nat.le_of_ble_eq_true rfl, Nat.le_of_ble_eq_true rfl⟩ ?_
  refine tl_some ?_
  refine zb_if_eq (tgt := 10) hx hb dX10_alone_5 (by decide) (fun c_1 => ?_) (fun c_1 => ?_)
  · have cd_c_1 := of_decide_eq_false c_1
    refine lv_aload_n hx hb dX10_alone_10 rfl (lv_at hl 0 rfl) ?_
    refine lv_sipush (v := iI 1000) hx hb dX10_alone_11 (by decide) ?_
    refine lv_sipush (v := iI 1999) hx hb dX10_alone_14 (by decide) ?_
    refine lv_aload_n hx hb dX10_alone_17 rfl (lv_at hl 0 rfl) ?_
    refine lv_iload_n hx hb dX10_alone_18 rfl (lv_at hl 1 rfl) ?_
    refine ro_S (As := [Value.ref fa, Value.int (iI (s1 : Int))]) (rest := [Value.int (iI 1999), Value.int (iI 1000), Value.ref fa]) (v := some (Value.int (iI (rMask R s1)))) ⟨hx, hb, hml, hown, hts⟩ (c_X10_maskOf l g τ fa R hI s1 (by omega)) gX10_alone_X10_maskOf cd_X10_maskOf rfl ⟨rfl, rfl⟩ ⟨Nat.le_of_ble_eq_true rfl, Nat.le_of_ble_eq_true rfl⟩ hK hP rfl hl rfl (Nat.le_of_ble_eq_true rfl) dX10_alone_19 ⟨Nat.le_of_ble_eq_true rfl, Nat.le_of_ble_eq_true rfl⟩ ?_
    refine tl_some ?_
    have := rMask_b (hI.sl s1 (by omega)).2.2.1
    refine lv_iconst (v := iI 2) hx hb dX10_alone_22 (by decide) ?_
    refine ro_S (As := [Value.ref fa, Value.int (iI 1000), Value.int (iI 1999), Value.int (iI (rMask R s1)), Value.int (iI 2)]) (rest := []) (v := some (Value.int (iI (rY R 1000 1999 (rMask R s1) 2)))) ⟨hx, hb, hml, hown, hts⟩ (c_X10_years l g τ fa R hI 1000 1999 (rMask R s1) 2 (by omega) (by omega) (by omega) (by omega)) gX10_alone_X10_years cd_X10_years rfl ⟨rfl, rfl⟩ ⟨Nat.le_of_ble_eq_true rfl, Nat.le_of_ble_eq_true rfl⟩ hK hP rfl hl rfl (Nat.le_of_ble_eq_true rfl) dX10_alone_23 ⟨Nat.le_of_ble_eq_true rfl, Nat.le_of_ble_eq_true rfl⟩ ?_
    refine tl_some ?_
    have := rY_b hI (lo := 1000) (hi := 1999) (w := (rMask R s1)) (by omega) (by omega) 2
    refine zi_if_ne (tgt := 31) hx hb ⟨by omega, by omega⟩ dX10_alone_26 (by decide) (fun c_2 => ?_) (fun c_2 => ?_)
    · have _ := c_2
      refine lv_aload_n hx hb dX10_alone_31 rfl (lv_at hl 0 rfl) ?_
      refine lv_iload_n hx hb dX10_alone_32 rfl (lv_at hl 1 rfl) ?_
      refine lv_iconst (v := iI 2) hx hb dX10_alone_33 (by decide) ?_
      refine ro_S (As := [Value.ref fa, Value.int (iI (s1 : Int)), Value.int (iI 2)]) (rest := []) (v := some (Value.int (iI (rY R (sLo R s1) (sHi R s1) (rMask R s1) 2)))) ⟨hx, hb, hml, hown, hts⟩ (c_X10_yearsOf l g τ fa R hI s1 (by omega) 2 (by omega)) gX10_alone_X10_yearsOf cd_X10_yearsOf rfl ⟨rfl, rfl⟩ ⟨Nat.le_of_ble_eq_true rfl, Nat.le_of_ble_eq_true rfl⟩ hK hP rfl hl rfl (Nat.le_of_ble_eq_true rfl) dX10_alone_34 ⟨Nat.le_of_ble_eq_true rfl, Nat.le_of_ble_eq_true rfl⟩ ?_
      refine tl_some ?_
      have := rY_b hI (lo := sLo R s1) (hi := sHi R s1) (w := rMask R s1) (sLo_b hI _) (sHi_b hI _) 2
      refine zi_if_ne (tgt := 44) hx hb ⟨by omega, by omega⟩ dX10_alone_37 (by decide) (fun c_3 => ?_) (fun c_3 => ?_)
      · have _ := c_3
        refine lv_iconst (v := iI 0) hx hb dX10_alone_44 (by decide) ?_
        exact zo_iret hx hb hr hlocks (by rw [ownA, if_neg (of_decide_eq_false (by assumption)), if_neg (by assumption)]; first | rw [if_neg (by assumption)] | rw [if_pos (by assumption)]) dX10_alone_45
      · have _ := c_3
        refine lv_iconst (v := iI 3) hx hb dX10_alone_40 (by decide) ?_
        refine lv_goto (tgt := 45) hx hb dX10_alone_41 (by decide) ?_
        exact zo_iret hx hb hr hlocks (by rw [ownA, if_neg (of_decide_eq_false (by assumption)), if_neg (by assumption)]; first | rw [if_neg (by assumption)] | rw [if_pos (by assumption)]) dX10_alone_45
    · have _ := c_2
      refine lv_iconst (v := iI 2) hx hb dX10_alone_29 (by decide) ?_
      exact zo_iret hx hb hr hlocks (by rw [ownA, if_neg (of_decide_eq_false (by assumption)), if_pos (by omega)]) dX10_alone_30
  · have cd_c_1 := of_decide_eq_true c_1
    refine lv_iconst (v := iI 1) hx hb dX10_alone_8 (by decide) ?_
    exact zo_iret hx hb hr hlocks (by rw [ownA, if_pos (of_decide_eq_true (by assumption))]) dX10_alone_9
