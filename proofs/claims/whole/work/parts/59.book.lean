/-! the book of states, the slots -/
def bkF (B : Nat → Nat → Nat → Int) (j : Nat) : Int := flR (B (j / 291)) (j % 291)
def upB (B : Nat → Nat → Nat → Int) (n : Nat) (R : Nat → Nat → Int) : Nat → Nat → Nat → Int := fun k => if k = n then R else B k
def drB (B : Nat → Nat → Nat → Int) : Nat → Nat → Nat → Int := fun k => if k < 13 then B (k + 1) else B k
def shB (B : Nat → Nat → Nat → Int) (i : Nat) : Nat → Int := fun j => if j < i then bkF B (291 + j) else bkF B j
theorem shB_0 (B : Nat → Nat → Nat → Int) : shB B 0 = bkF B := by
  funext j
  unfold shB
  rw [if_neg (by omega)]
theorem shB_s (B : Nat → Nat → Nat → Int) (i : Nat) : updZ (shB B i) i (shB B i (291 + i)) = shB B (i + 1) := by
  funext j
  unfold updZ shB
  by_cases q : j = i
  · subst q
    rw [if_pos rfl, if_neg (by omega), if_pos (by omega)]
  · rw [if_neg q]
    by_cases q2 : j < i
    · rw [if_pos q2, if_pos (by omega)]
    · rw [if_neg q2, if_neg (by omega)]
theorem shB_e (B : Nat → Nat → Nat → Int) : shB B 3783 = bkF (drB B) := by
  funext j
  unfold shB bkF drB
  by_cases q : j < 3783
  · rw [if_pos q, if_pos (by omega), show (291 + j) / 291 = j / 291 + 1 from by omega, show (291 + j) % 291 = j % 291 from by omega]
  · rw [if_neg q, if_neg (by omega)]
def cpB (f : Nat → Int) (n : Nat) (R : Nat → Nat → Int) (i : Nat) : Nat → Int := fun j => if 291 * n ≤ j ∧ j < 291 * n + i then flR R (j - 291 * n) else f j
theorem cpB_0 (f : Nat → Int) (n : Nat) (R : Nat → Nat → Int) : cpB f n R 0 = f := by
  funext j
  unfold cpB
  rw [if_neg (by omega)]
theorem cpB_s (f : Nat → Int) (n : Nat) (R : Nat → Nat → Int) (i : Nat) : updZ (cpB f n R i) (291 * n + i) (flR R i) = cpB f n R (i + 1) := by
  funext j
  unfold updZ cpB
  by_cases q : j = 291 * n + i
  · subst q
    rw [if_pos rfl, if_pos (by omega), show 291 * n + i - 291 * n = i from by omega]
  · rw [if_neg q]
    by_cases q2 : 291 * n ≤ j ∧ j < 291 * n + i
    · rw [if_pos q2, if_pos (by omega)]
    · rw [if_neg q2, if_neg (by omega)]
theorem cpB_e (B : Nat → Nat → Nat → Int) (n : Nat) (R : Nat → Nat → Int) : cpB (bkF B) n R 291 = bkF (upB B n R) := by
  funext j
  unfold cpB bkF upB
  by_cases q : 291 * n ≤ j ∧ j < 291 * n + 291
  · rw [if_pos q, if_pos (by omega), show j - 291 * n = j % 291 from by omega]
  · rw [if_neg q, if_neg (by omega)]
def unF (B : Nat → Nat → Nat → Int) (n : Nat) (R : Nat → Nat → Int) (i : Nat) : Nat → Int := fun j => if j < i then bkF B (291 * n + j) else flR R j
theorem unF_0 (B : Nat → Nat → Nat → Int) (n : Nat) (R : Nat → Nat → Int) : unF B n R 0 = flR R := by
  funext j
  unfold unF
  rw [if_neg (by omega)]
theorem unF_s (B : Nat → Nat → Nat → Int) (n : Nat) (R : Nat → Nat → Int) (i : Nat) : updZ (unF B n R i) i (bkF B (291 * n + i)) = unF B n R (i + 1) := by
  funext j
  unfold updZ unF
  by_cases q : j = i
  · subst q
    rw [if_pos rfl, if_pos (by omega)]
  · rw [if_neg q]
    by_cases q2 : j < i
    · rw [if_pos q2, if_pos (by omega)]
    · rw [if_neg q2, if_neg (by omega)]
theorem unF_e (B : Nat → Nat → Nat → Int) (n : Nat) (R : Nat → Nat → Int) : ∀ j, j < 291 → unF B n R 291 j = flR (B n) j := fun j hj => by
  unfold unF bkF
  rw [if_pos hj, show (291 * n + j) / 291 = n from by omega, show (291 * n + j) % 291 = j from by omega]
def rmB (n : Int) (B : Nat → Nat → Nat → Int) (R : Nat → Nat → Int) : Int × (Nat → Nat → Nat → Int) := if n = 14 then (14, upB (drB B) 13 R) else (n + 1, upB B n.toNat R)
def cd3 (a x y z : Int) : Int := if a = -2 then x else if a = -3 then y else if a = -4 then z else 0
theorem kB_p {R : Nat → Nat → Int} (h : 0 ≤ R 1 0) {y : Int} : (10 ≤ R 1 0 ∨ kBehind R (R 1 0).toNat y = false) ↔ ¬ (R 1 0 < 10 ∧ (R 1 0 = 0 ∨ R 2 ((R 1 0).toNat - 1) < y)) := by
  unfold kBehind
  rw [Bool.or_eq_false_iff, decide_eq_false_iff_not, decide_eq_false_iff_not]
  omega
theorem cP_t {a n : Int} {b : Bool} (h : (decide (a < n) && !b) = true) : ¬ (n ≤ a ∨ b = true) := by
  rw [Bool.and_eq_true_iff] at h
  have h1 := of_decide_eq_true h.1
  rintro (q | q)
  · omega
  · rw [q] at h; exact absurd h.2 (by decide)
theorem cP_f {a n : Int} {b : Bool} (h : (decide (a < n) && !b) = false) : n ≤ a ∨ b = true := by
  by_cases q : n ≤ a
  · exact Or.inl q
  · rw [decide_eq_true (by omega : a < n), Bool.true_and] at h
    cases b
    · cases h
    · exact Or.inr rfl
theorem cnt_pos {p : Nat → Bool} {k : Nat} (hp : p k = true) : ∀ n : Nat, k < n → 1 ≤ cnt p n
  | 0, h => by omega
  | n + 1, h => by
    have hle := cnt_le p n
    unfold cnt
    by_cases q : k = n
    · subst q
      rw [if_pos hp]
      omega
    · have := cnt_pos hp n (by omega)
      split <;> omega
theorem hang_pos {R : Nat → Nat → Int} {s : Nat} {z : Int} (h : (s : Int) < R 10 0) : 1 ≤ cnt (fun t => decide (updZ (R 16) s z t = z)) (R 10 0).toNat := cnt_pos (k := s) (decide_eq_true ud_e) _ (by omega)

theorem cd_X10_remember : cd yX10_remember 0 := by decide +kernel
theorem in_X10_remember_X10 : ∀ w ∈ wsX100, w ∈ wsX10_remember := by decide +kernel
set_option maxHeartbeats 2000000 in
set_option maxRecDepth 100000 in
theorem c_X10_remember (l : Launch) (g : va_G) (τ : Nat → ClassId) (ma : Nat → Nat) (M : Nat → Int) (R : Nat → Nat → Int) (hI : SI R) (B : Nat → Nat → Nat → Int) (hn5 : 0 ≤ M 5 ∧ M 5 ≤ 14)  : Met l yX10_remember wsX10_remember { frames := 0, cells := 0, slots := 0, locals := 0 } (va_Pc [Value.ref (ma 0)] (rwW g τ ([moO ma M, arC (ma 1) (τ 0) 291 (flR R), arC (ma 4) (τ 0) 4074 (bkF B)]))) (rwQ g (fun v w => v = none ∧ ∃ M2 : Nat → Int, M2 0 = M 0 ∧ M2 5 = (rmB (M 5) B R).1 ∧ M2 9 = M 9 ∧ w = [moO ma M2, arC (ma 1) (τ 0) 291 (flR R), arC (ma 4) (τ 0) 4074 (bkF (rmB (M 5) B R).2)]) (inW ([moO ma M, arC (ma 1) (τ 0) 291 (flR R), arC (ma 4) (τ 0) 4074 (bkF B)]))) 0 0 (inW ([moO ma M, arC (ma 1) (τ 0) 291 (flR R), arC (ma 4) (τ 0) 4074 (bkF B)])) := by
  have hB := hI.hB
  have hr0 := hI.r
  have hd0 := hI.d
  have hs0 := hI.s
  refine rwMet (cc := cX10_remember) (maxL := 2) (ret := none) (lv := [(0, Value.ref (ma 0))]) (by decide) rfl (Nat.le_of_ble_eq_true rfl) rfl ?_
  intro p e s m below meth c hx hb hr hml hts hown hlocks A H hP hD hS hK ls hl
  refine lv_aload_n hx hb dX10_remember_0 rfl (lv_at hl 0 rfl) ?_
  refine va_get (D := g) (ci := 10) (v := Value.int (iI (M 5))) (C := RX10) (T := TX10) (N := 18) hx hb hts in_X10_remember_X10 hown hK.1 hP 0 (rfl) rfl 5 (by decide) (hts _ (List.mem_of_getElem? (i := 1) rfl) : (Cond.fieldLink RX10 142 "CordSealsModel" "states" "I").before _ s = true) (fun _ h9 => h9) rfl dX10_remember_1 ?_
  refine lv_bipush (v := iI 14) hx hb dX10_remember_4 (by decide) ?_
  refine zi_icmp_ne (tgt := 50) hx hb ⟨by omega, by omega⟩ ⟨by decide, by decide⟩ dX10_remember_6 (by decide) (fun c_1 => ?_) (fun c_1 => ?_)
  · have _ := c_1
    refine lv_iconst (v := iI 0) hx hb dX10_remember_50 (by decide) ?_
    refine lv_istore_n (lv' := [(1, Value.int (iI 0)), (0, Value.ref (ma 0))]) hx hb dX10_remember_51 rfl hl (by decide) rfl (fun ls hl => ?_)
    have hP : va_P g vwCl ([moO ma M, arC (ma 1) (τ 0) 291 (flR R), arC (ma 4) (τ 0) 4074 (cpB (bkF B) ((M 5).toNat) R 0)]) H := by rw [cpB_0]; exact hP
    have hD : va_D A ([moO ma M, arC (ma 1) (τ 0) 291 (flR R), arC (ma 4) (τ 0) 4074 (cpB (bkF B) ((M 5).toNat) R 0)]) := by rw [cpB_0]; exact hD
    refine lp_upX (fun k => [(1, Value.int (iI (k : Int))), (0, Value.ref (ma 0))]) (fun k M_2 => [moO ma M_2, arC (ma 1) (τ 0) 291 (flR R), arC (ma 4) (τ 0) 4074 (cpB (bkF B) ((M 5).toNat) R k)]) (fun k M_2 => AG M M_2) (291) (0) (M) (by omega) hP hD hS (AG_r _) (lv_eq (lv_sub hl [0, 1] rfl) (by show [(1, Value.int (iI 0)), (0, Value.ref (ma 0))] = [(1, Value.int (iI 0)), (0, Value.ref (ma 0))]; rfl)) (fun k h0_k hi_k M_2 hJ_k ih_52 H locs hP hD hS ls hl => ?_)
    have hfM_2_0 : M_2 0 = M 0 := hJ_k 0 (by decide)
    have hfM_2_5 : M_2 5 = M 5 := hJ_k 5 (by decide)
    have hfM_2_9 : M_2 9 = M 9 := hJ_k 9 (by decide)
    have hfM_2_10 : M_2 10 = M 10 := hJ_k 10 (by decide)
    have hfM_2_11 : M_2 11 = M 11 := hJ_k 11 (by decide)
    have hfM_2_12 : M_2 12 = M 12 := hJ_k 12 (by decide)
    refine lv_iload_n hx hb dX10_remember_52 rfl (lv_at hl 0 rfl) ?_
    refine lv_sipush (v := iI 291) hx hb dX10_remember_53 (by decide) ?_
    refine zi_icmp_ge (tgt := 86) hx hb ⟨by omega, by omega⟩ ⟨by decide, by decide⟩ dX10_remember_56 (by decide) (fun c_3 => ?_) (fun c_3 => ?_)
    · have _ := c_3
      have h0_k : k = 291 := by omega
      refine lv_aload_n hx hb dX10_remember_86 rfl (lv_at hl 1 rfl) ?_
      refine lv_dup hx hb dX10_remember_87 rfl ?_
      refine va_get (D := g) (ci := 10) (v := Value.int (iI (M_2 5))) (C := RX10) (T := TX10) (N := 18) hx hb hts in_X10_remember_X10 hown hK.1 hP 0 (rfl) rfl 5 (by decide) (hts _ (List.mem_of_getElem? (i := 1) rfl) : (Cond.fieldLink RX10 142 "CordSealsModel" "states" "I").before _ s = true) (fun _ h9 => h9) rfl dX10_remember_88 ?_
      refine lv_iconst (v := iI 1) hx hb dX10_remember_91 (by decide) ?_
      refine zi_add hx hb dX10_remember_92 ?_
      refine va_put (D := g) (ci := 10) (v := Value.int (iI ((M_2 5) + 1))) (ty := .int) (C := RX10) (T := TX10) (N := 18) hx hb hts in_X10_remember_X10 tyX10 tyX10_ok nmX10 hown hK.1 hP hD hS 0 (rfl) rfl 5 (by decide) (hts _ (List.mem_of_getElem? (i := 1) rfl) : (Cond.fieldLink RX10 142 "CordSealsModel" "states" "I").before _ s = true) (fun _ h9 => h9) rfl (by decide +kernel) rfl rfl (Nat.le_of_ble_eq_true rfl) dX10_remember_93 (fun H locs hP hD hS => ?_)
      have hP : va_P g vwCl ([moO ma (updZ M_2 5 ((M_2 5) + 1)), arC (ma 1) (τ 0) 291 (flR R), arC (ma 4) (τ 0) 4074 (cpB (bkF B) ((M 5).toNat) R k)]) H := hP
      have hD : va_D A ([moO ma (updZ M_2 5 ((M_2 5) + 1)), arC (ma 1) (τ 0) 291 (flR R), arC (ma 4) (τ 0) 4074 (cpB (bkF B) ((M 5).toNat) R k)]) := hD
      subst h0_k
      rw [cpB_e] at hP
      have hP : va_P g vwCl [moO ma (updZ M_2 5 ((M_2 5) + 1)), arC (ma 1) (τ 0) 291 (flR R), arC (ma 4) (τ 0) 4074 (bkF (upB B (M 5).toNat R))] H := hP
      exact rw_vret hx hb hr hlocks hP hS (⟨rfl, (updZ M_2 5 ((M_2 5) + 1)), by show M_2 0 = M 0; first | rfl | omega, by rw [(show rmB (M 5) B R = (M 5 + 1, upB B (M 5).toNat R) from by unfold rmB; rw [if_neg (by omega)])]; show (M_2 5) + 1 = M 5 + 1; omega, by show M_2 9 = M 9; first | rfl | omega, by rw [(show rmB (M 5) B R = (M 5 + 1, upB B (M 5).toNat R) from by unfold rmB; rw [if_neg (by omega)])]⟩) dX10_remember_96
    · have _ := c_3
      have hl_k : k < 291 := by omega
      refine lv_aload_n hx hb dX10_remember_59 rfl (lv_at hl 1 rfl) ?_
      refine va_get (D := g) (ci := 10) (v := Value.ref (ma 4)) (C := RX10) (T := TX10) (N := 18) hx hb hts in_X10_remember_X10 hown hK.1 hP 0 (rfl) rfl 4 (by decide) (hts _ (List.mem_of_getElem? (i := 2) rfl) : (Cond.fieldLink RX10 19 "CordSealsModel" "book" "[I").before _ s = true) (fun _ h9 => h9) rfl dX10_remember_60 ?_
      refine lv_sipush (v := iI 291) hx hb dX10_remember_63 (by decide) ?_
      refine lv_aload_n hx hb dX10_remember_66 rfl (lv_at hl 1 rfl) ?_
      refine va_get (D := g) (ci := 10) (v := Value.int (iI (M_2 5))) (C := RX10) (T := TX10) (N := 18) hx hb hts in_X10_remember_X10 hown hK.1 hP 0 (rfl) rfl 5 (by decide) (hts _ (List.mem_of_getElem? (i := 1) rfl) : (Cond.fieldLink RX10 142 "CordSealsModel" "states" "I").before _ s = true) (fun _ h9 => h9) rfl dX10_remember_67 ?_
      refine zi_mul hx hb dX10_remember_70 ?_
      refine lv_iload_n hx hb dX10_remember_71 rfl (lv_at hl 0 rfl) ?_
      refine zi_add hx hb dX10_remember_72 ?_
      refine cv_i (y := iI ((291 * ((M 5).toNat) + k : Nat) : Int)) (congrArg iI (by omega)) ?_
      refine lv_aload_n hx hb dX10_remember_73 rfl (lv_at hl 1 rfl) ?_
      refine va_get (D := g) (ci := 10) (v := Value.ref (ma 1)) (C := RX10) (T := TX10) (N := 18) hx hb hts in_X10_remember_X10 hown hK.1 hP 0 (rfl) rfl 1 (by decide) (hts _ (List.mem_of_getElem? (i := 3) rfl) : (Cond.fieldLink RX10 7 "CordSealsModel" "now" "[I").before _ s = true) (fun _ h9 => h9) rfl dX10_remember_74 ?_
      refine lv_iload_n hx hb dX10_remember_77 rfl (lv_at hl 0 rfl) ?_
      refine zi_ald hx hb hK hP 1 (f := (flR R)) (rfl) (k) (rfl) (by omega) (by decide) dX10_remember_78 ?_
      refine zi_ast hx hb hK hP hD hS 2 (f := (cpB (bkF B) ((M 5).toNat) R k)) (rfl) (291 * ((M 5).toNat) + k) (rfl) (by omega) (by decide) dX10_remember_79 (wo := [moO ma M_2, arC (ma 1) (τ 0) 291 (flR R), arC (ma 4) (τ 0) 4074 (updZ (cpB (bkF B) ((M 5).toNat) R k) (291 * ((M 5).toNat) + k) (flR R k))]) rfl (fun H locs hP hD hS => ?_)
      refine zi_inc (v := ((k + 1 : Nat) : Int)) (lv' := [(1, Value.int (iI ((k + 1 : Nat) : Int))), (0, Value.ref (ma 0))]) hx hb dX10_remember_80 hl (k := 0) rfl (by omega) (by decide) rfl (fun ls hl => ?_)
      refine lv_goto (tgt := 52) hx hb dX10_remember_83 (by decide) ?_
      have hb_4 : (((k + 1) : Nat) : Int) = ((k + 1 : Nat) : Int) := by first | rfl | omega | (simp [c_1, c_3]; done)
      have hw_5 : [moO ma M_2, arC (ma 1) (τ 0) 291 (flR R), arC (ma 4) (τ 0) 4074 (updZ (cpB (bkF B) ((M 5).toNat) R k) (291 * ((M 5).toNat) + k) (flR R k))] = [moO ma M_2, arC (ma 1) (τ 0) 291 (flR R), arC (ma 4) (τ 0) 4074 (cpB (bkF B) ((M 5).toNat) R (k + 1))] := by rw [cpB_s]
      rw [hw_5] at hP hD
      exact ih_52 hl_k (M_2) (hJ_k) _ _ _ hP hD hS (lv_eq (lv_sub hl [0, 1] rfl) (by show [(1, Value.int (iI (((k + 1) : Nat) : Int))), (0, Value.ref (ma 0))] = [(1, Value.int (iI ((k + 1 : Nat) : Int))), (0, Value.ref (ma 0))]; rw [hb_4]))
  · have _ := c_1
    refine lv_iconst (v := iI 0) hx hb dX10_remember_9 (by decide) ?_
    refine lv_istore_n (lv' := [(1, Value.int (iI 0)), (0, Value.ref (ma 0))]) hx hb dX10_remember_10 rfl hl (by decide) rfl (fun ls hl => ?_)
    have hP : va_P g vwCl ([moO ma M, arC (ma 1) (τ 0) 291 (flR R), arC (ma 4) (τ 0) 4074 (shB B 0)]) H := by rw [shB_0]; exact hP
    have hD : va_D A ([moO ma M, arC (ma 1) (τ 0) 291 (flR R), arC (ma 4) (τ 0) 4074 (shB B 0)]) := by rw [shB_0]; exact hD
    refine lp_upX (fun i => [(1, Value.int (iI (i : Int))), (0, Value.ref (ma 0))]) (fun i M_6 => [moO ma M_6, arC (ma 1) (τ 0) 291 (flR R), arC (ma 4) (τ 0) 4074 (shB B i)]) (fun i M_6 => AG M M_6) (3783) (0) (M) (by omega) hP hD hS (AG_r _) (lv_eq (lv_sub hl [0, 1] rfl) (by show [(1, Value.int (iI 0)), (0, Value.ref (ma 0))] = [(1, Value.int (iI 0)), (0, Value.ref (ma 0))]; rfl)) (fun i h0_i hi_i M_6 hJ_i ih_11 H locs hP hD hS ls hl => ?_)
    have hfM_6_0 : M_6 0 = M 0 := hJ_i 0 (by decide)
    have hfM_6_5 : M_6 5 = M 5 := hJ_i 5 (by decide)
    have hfM_6_9 : M_6 9 = M 9 := hJ_i 9 (by decide)
    have hfM_6_10 : M_6 10 = M 10 := hJ_i 10 (by decide)
    have hfM_6_11 : M_6 11 = M 11 := hJ_i 11 (by decide)
    have hfM_6_12 : M_6 12 = M 12 := hJ_i 12 (by decide)
    refine lv_iload_n hx hb dX10_remember_11 rfl (lv_at hl 0 rfl) ?_
    refine lv_sipush (v := iI 3783) hx hb dX10_remember_12 (by decide) ?_
    refine zi_icmp_ge (tgt := 40) hx hb ⟨by omega, by omega⟩ ⟨by decide, by decide⟩ dX10_remember_15 (by decide) (fun c_7 => ?_) (fun c_7 => ?_)
    · have _ := c_7
      have h0_i : i = 3783 := by omega
      subst h0_i
      rw [shB_e] at hP hD
      refine lv_aload_n hx hb dX10_remember_40 rfl (lv_at hl 1 rfl) ?_
      refine lv_dup hx hb dX10_remember_41 rfl ?_
      refine va_get (D := g) (ci := 10) (v := Value.int (iI (M_6 5))) (C := RX10) (T := TX10) (N := 18) hx hb hts in_X10_remember_X10 hown hK.1 hP 0 (rfl) rfl 5 (by decide) (hts _ (List.mem_of_getElem? (i := 1) rfl) : (Cond.fieldLink RX10 142 "CordSealsModel" "states" "I").before _ s = true) (fun _ h9 => h9) rfl dX10_remember_42 ?_
      refine lv_iconst (v := iI 1) hx hb dX10_remember_45 (by decide) ?_
      refine zi_sub hx hb dX10_remember_46 ?_
      refine va_put (D := g) (ci := 10) (v := Value.int (iI ((M_6 5) - 1))) (ty := .int) (C := RX10) (T := TX10) (N := 18) hx hb hts in_X10_remember_X10 tyX10 tyX10_ok nmX10 hown hK.1 hP hD hS 0 (rfl) rfl 5 (by decide) (hts _ (List.mem_of_getElem? (i := 1) rfl) : (Cond.fieldLink RX10 142 "CordSealsModel" "states" "I").before _ s = true) (fun _ h9 => h9) rfl (by decide +kernel) rfl rfl (Nat.le_of_ble_eq_true rfl) dX10_remember_47 (fun H locs hP hD hS => ?_)
      have hP : va_P g vwCl ([moO ma (updZ M_6 5 ((M_6 5) - 1)), arC (ma 1) (τ 0) 291 (flR R), arC (ma 4) (τ 0) 4074 (bkF (drB B))]) H := hP
      have hD : va_D A ([moO ma (updZ M_6 5 ((M_6 5) - 1)), arC (ma 1) (τ 0) 291 (flR R), arC (ma 4) (τ 0) 4074 (bkF (drB B))]) := hD
      refine lv_iconst (v := iI 0) hx hb dX10_remember_50 (by decide) ?_
      refine lv_istore_n (lv' := [(1, Value.int (iI 0)), (0, Value.ref (ma 0))]) hx hb dX10_remember_51 rfl hl (by decide) rfl (fun ls hl => ?_)
      have hP : va_P g vwCl ([moO ma (updZ M_6 5 ((M_6 5) - 1)), arC (ma 1) (τ 0) 291 (flR R), arC (ma 4) (τ 0) 4074 (cpB (bkF (drB B)) (((M_6 5) - 1).toNat) R 0)]) H := by rw [cpB_0]; exact hP
      have hD : va_D A ([moO ma (updZ M_6 5 ((M_6 5) - 1)), arC (ma 1) (τ 0) 291 (flR R), arC (ma 4) (τ 0) 4074 (cpB (bkF (drB B)) (((M_6 5) - 1).toNat) R 0)]) := by rw [cpB_0]; exact hD
      refine lp_upX (fun k => [(1, Value.int (iI (k : Int))), (0, Value.ref (ma 0))]) (fun k M_8 => [moO ma M_8, arC (ma 1) (τ 0) 291 (flR R), arC (ma 4) (τ 0) 4074 (cpB (bkF (drB B)) (((M_6 5) - 1).toNat) R k)]) (fun k M_8 => AG (updZ M_6 5 ((M_6 5) - 1)) M_8) (291) (0) (updZ M_6 5 ((M_6 5) - 1)) (by omega) hP hD hS (AG_r _) (lv_eq (lv_sub hl [0, 1] rfl) (by show [(1, Value.int (iI 0)), (0, Value.ref (ma 0))] = [(1, Value.int (iI 0)), (0, Value.ref (ma 0))]; rfl)) (fun k h0_k hi_k M_8 hJ_k ih_52 H locs hP hD hS ls hl => ?_)
      have hfM_8_0 : M_8 0 = M_6 0 := hJ_k 0 (by decide)
      have hfM_8_5 : M_8 5 = (M_6 5) - 1 := hJ_k 5 (by decide)
      have hfM_8_9 : M_8 9 = M_6 9 := hJ_k 9 (by decide)
      have hfM_8_10 : M_8 10 = M_6 10 := hJ_k 10 (by decide)
      have hfM_8_11 : M_8 11 = M_6 11 := hJ_k 11 (by decide)
      have hfM_8_12 : M_8 12 = M_6 12 := hJ_k 12 (by decide)
      refine lv_iload_n hx hb dX10_remember_52 rfl (lv_at hl 0 rfl) ?_
      refine lv_sipush (v := iI 291) hx hb dX10_remember_53 (by decide) ?_
      refine zi_icmp_ge (tgt := 86) hx hb ⟨by omega, by omega⟩ ⟨by decide, by decide⟩ dX10_remember_56 (by decide) (fun c_9 => ?_) (fun c_9 => ?_)
      · have _ := c_9
        have h0_k : k = 291 := by omega
        refine lv_aload_n hx hb dX10_remember_86 rfl (lv_at hl 1 rfl) ?_
        refine lv_dup hx hb dX10_remember_87 rfl ?_
        refine va_get (D := g) (ci := 10) (v := Value.int (iI (M_8 5))) (C := RX10) (T := TX10) (N := 18) hx hb hts in_X10_remember_X10 hown hK.1 hP 0 (rfl) rfl 5 (by decide) (hts _ (List.mem_of_getElem? (i := 1) rfl) : (Cond.fieldLink RX10 142 "CordSealsModel" "states" "I").before _ s = true) (fun _ h9 => h9) rfl dX10_remember_88 ?_
        refine lv_iconst (v := iI 1) hx hb dX10_remember_91 (by decide) ?_
        refine zi_add hx hb dX10_remember_92 ?_
        refine va_put (D := g) (ci := 10) (v := Value.int (iI ((M_8 5) + 1))) (ty := .int) (C := RX10) (T := TX10) (N := 18) hx hb hts in_X10_remember_X10 tyX10 tyX10_ok nmX10 hown hK.1 hP hD hS 0 (rfl) rfl 5 (by decide) (hts _ (List.mem_of_getElem? (i := 1) rfl) : (Cond.fieldLink RX10 142 "CordSealsModel" "states" "I").before _ s = true) (fun _ h9 => h9) rfl (by decide +kernel) rfl rfl (Nat.le_of_ble_eq_true rfl) dX10_remember_93 (fun H locs hP hD hS => ?_)
        have hP : va_P g vwCl ([moO ma (updZ M_8 5 ((M_8 5) + 1)), arC (ma 1) (τ 0) 291 (flR R), arC (ma 4) (τ 0) 4074 (cpB (bkF (drB B)) (((M_6 5) - 1).toNat) R k)]) H := hP
        have hD : va_D A ([moO ma (updZ M_8 5 ((M_8 5) + 1)), arC (ma 1) (τ 0) 291 (flR R), arC (ma 4) (τ 0) 4074 (cpB (bkF (drB B)) (((M_6 5) - 1).toNat) R k)]) := hD
        subst h0_k
        rw [cpB_e] at hP
        have h13 : (((M_6 5) - 1).toNat) = 13 := by omega
        rw [h13] at hP
        have hP : va_P g vwCl [moO ma (updZ M_8 5 ((M_8 5) + 1)), arC (ma 1) (τ 0) 291 (flR R), arC (ma 4) (τ 0) 4074 (bkF (upB (drB B) 13 R))] H := hP
        exact rw_vret hx hb hr hlocks hP hS (⟨rfl, (updZ M_8 5 ((M_8 5) + 1)), by show M_8 0 = M 0; first | rfl | omega, by rw [(show rmB (M 5) B R = (14, upB (drB B) 13 R) from by unfold rmB; rw [if_pos (by omega)])]; show (M_8 5) + 1 = 14; omega, by show M_8 9 = M 9; first | rfl | omega, by rw [(show rmB (M 5) B R = (14, upB (drB B) 13 R) from by unfold rmB; rw [if_pos (by omega)])]⟩) dX10_remember_96
      · have _ := c_9
        have hl_k : k < 291 := by omega
        refine lv_aload_n hx hb dX10_remember_59 rfl (lv_at hl 1 rfl) ?_
        refine va_get (D := g) (ci := 10) (v := Value.ref (ma 4)) (C := RX10) (T := TX10) (N := 18) hx hb hts in_X10_remember_X10 hown hK.1 hP 0 (rfl) rfl 4 (by decide) (hts _ (List.mem_of_getElem? (i := 2) rfl) : (Cond.fieldLink RX10 19 "CordSealsModel" "book" "[I").before _ s = true) (fun _ h9 => h9) rfl dX10_remember_60 ?_
        refine lv_sipush (v := iI 291) hx hb dX10_remember_63 (by decide) ?_
        refine lv_aload_n hx hb dX10_remember_66 rfl (lv_at hl 1 rfl) ?_
        refine va_get (D := g) (ci := 10) (v := Value.int (iI (M_8 5))) (C := RX10) (T := TX10) (N := 18) hx hb hts in_X10_remember_X10 hown hK.1 hP 0 (rfl) rfl 5 (by decide) (hts _ (List.mem_of_getElem? (i := 1) rfl) : (Cond.fieldLink RX10 142 "CordSealsModel" "states" "I").before _ s = true) (fun _ h9 => h9) rfl dX10_remember_67 ?_
        refine zi_mul hx hb dX10_remember_70 ?_
        refine lv_iload_n hx hb dX10_remember_71 rfl (lv_at hl 0 rfl) ?_
        refine zi_add hx hb dX10_remember_72 ?_
        refine cv_i (y := iI ((291 * (((M_6 5) - 1).toNat) + k : Nat) : Int)) (congrArg iI (by omega)) ?_
        refine lv_aload_n hx hb dX10_remember_73 rfl (lv_at hl 1 rfl) ?_
        refine va_get (D := g) (ci := 10) (v := Value.ref (ma 1)) (C := RX10) (T := TX10) (N := 18) hx hb hts in_X10_remember_X10 hown hK.1 hP 0 (rfl) rfl 1 (by decide) (hts _ (List.mem_of_getElem? (i := 3) rfl) : (Cond.fieldLink RX10 7 "CordSealsModel" "now" "[I").before _ s = true) (fun _ h9 => h9) rfl dX10_remember_74 ?_
        refine lv_iload_n hx hb dX10_remember_77 rfl (lv_at hl 0 rfl) ?_
        refine zi_ald hx hb hK hP 1 (f := (flR R)) (rfl) (k) (rfl) (by omega) (by decide) dX10_remember_78 ?_
        refine zi_ast hx hb hK hP hD hS 2 (f := (cpB (bkF (drB B)) (((M_6 5) - 1).toNat) R k)) (rfl) (291 * (((M_6 5) - 1).toNat) + k) (rfl) (by omega) (by decide) dX10_remember_79 (wo := [moO ma M_8, arC (ma 1) (τ 0) 291 (flR R), arC (ma 4) (τ 0) 4074 (updZ (cpB (bkF (drB B)) (((M_6 5) - 1).toNat) R k) (291 * (((M_6 5) - 1).toNat) + k) (flR R k))]) rfl (fun H locs hP hD hS => ?_)
        refine zi_inc (v := ((k + 1 : Nat) : Int)) (lv' := [(1, Value.int (iI ((k + 1 : Nat) : Int))), (0, Value.ref (ma 0))]) hx hb dX10_remember_80 hl (k := 0) rfl (by omega) (by decide) rfl (fun ls hl => ?_)
        refine lv_goto (tgt := 52) hx hb dX10_remember_83 (by decide) ?_
        have hb_10 : (((k + 1) : Nat) : Int) = ((k + 1 : Nat) : Int) := by first | rfl | omega | (simp [c_1, c_7, h0_i, c_9]; done)
        have hw_11 : [moO ma M_8, arC (ma 1) (τ 0) 291 (flR R), arC (ma 4) (τ 0) 4074 (updZ (cpB (bkF (drB B)) (((M_6 5) - 1).toNat) R k) (291 * (((M_6 5) - 1).toNat) + k) (flR R k))] = [moO ma M_8, arC (ma 1) (τ 0) 291 (flR R), arC (ma 4) (τ 0) 4074 (cpB (bkF (drB B)) (((M_6 5) - 1).toNat) R (k + 1))] := by rw [cpB_s]
        rw [hw_11] at hP hD
        exact ih_52 hl_k (M_8) (hJ_k) _ _ _ hP hD hS (lv_eq (lv_sub hl [0, 1] rfl) (by show [(1, Value.int (iI (((k + 1) : Nat) : Int))), (0, Value.ref (ma 0))] = [(1, Value.int (iI ((k + 1 : Nat) : Int))), (0, Value.ref (ma 0))]; rw [hb_10]))
    · have _ := c_7
      have hl_i : i < 3783 := by omega
      refine lv_aload_n hx hb dX10_remember_18 rfl (lv_at hl 1 rfl) ?_
      refine va_get (D := g) (ci := 10) (v := Value.ref (ma 4)) (C := RX10) (T := TX10) (N := 18) hx hb hts in_X10_remember_X10 hown hK.1 hP 0 (rfl) rfl 4 (by decide) (hts _ (List.mem_of_getElem? (i := 2) rfl) : (Cond.fieldLink RX10 19 "CordSealsModel" "book" "[I").before _ s = true) (fun _ h9 => h9) rfl dX10_remember_19 ?_
      refine lv_iload_n hx hb dX10_remember_22 rfl (lv_at hl 0 rfl) ?_
      refine lv_aload_n hx hb dX10_remember_23 rfl (lv_at hl 1 rfl) ?_
      refine va_get (D := g) (ci := 10) (v := Value.ref (ma 4)) (C := RX10) (T := TX10) (N := 18) hx hb hts in_X10_remember_X10 hown hK.1 hP 0 (rfl) rfl 4 (by decide) (hts _ (List.mem_of_getElem? (i := 2) rfl) : (Cond.fieldLink RX10 19 "CordSealsModel" "book" "[I").before _ s = true) (fun _ h9 => h9) rfl dX10_remember_24 ?_
      refine lv_sipush (v := iI 291) hx hb dX10_remember_27 (by decide) ?_
      refine lv_iload_n hx hb dX10_remember_30 rfl (lv_at hl 0 rfl) ?_
      refine zi_add hx hb dX10_remember_31 ?_
      refine zi_ald hx hb hK hP 2 (f := (shB B i)) (rfl) (291 + i) (by omega) (by omega) (by decide) dX10_remember_32 ?_
      refine zi_ast hx hb hK hP hD hS 2 (f := (shB B i)) (rfl) (i) (rfl) (by omega) (by decide) dX10_remember_33 (wo := [moO ma M_6, arC (ma 1) (τ 0) 291 (flR R), arC (ma 4) (τ 0) 4074 (updZ (shB B i) i (shB B i (291 + i)))]) rfl (fun H locs hP hD hS => ?_)
      refine zi_inc (v := ((i + 1 : Nat) : Int)) (lv' := [(1, Value.int (iI ((i + 1 : Nat) : Int))), (0, Value.ref (ma 0))]) hx hb dX10_remember_34 hl (k := 0) rfl (by omega) (by decide) rfl (fun ls hl => ?_)
      refine lv_goto (tgt := 11) hx hb dX10_remember_37 (by decide) ?_
      have hb_12 : (((i + 1) : Nat) : Int) = ((i + 1 : Nat) : Int) := by first | rfl | omega | (simp [c_1, c_7]; done)
      have hw_13 : [moO ma M_6, arC (ma 1) (τ 0) 291 (flR R), arC (ma 4) (τ 0) 4074 (updZ (shB B i) i (shB B i (291 + i)))] = [moO ma M_6, arC (ma 1) (τ 0) 291 (flR R), arC (ma 4) (τ 0) 4074 (shB B (i + 1))] := by rw [shB_s]
      rw [hw_13] at hP hD
      exact ih_11 hl_i (M_6) (hJ_i) _ _ _ hP hD hS (lv_eq (lv_sub hl [0, 1] rfl) (by show [(1, Value.int (iI (((i + 1) : Nat) : Int))), (0, Value.ref (ma 0))] = [(1, Value.int (iI ((i + 1 : Nat) : Int))), (0, Value.ref (ma 0))]; rw [hb_12]))

theorem cd_X10_reign : cd yX10_reign 2 := by decide +kernel
theorem in_X10_reign_X10 : ∀ w ∈ wsX100, w ∈ wsX10_reign := by decide +kernel
set_option maxHeartbeats 2000000 in
set_option maxRecDepth 100000 in
theorem c_X10_reign (l : Launch) (g : va_G) (τ : Nat → ClassId) (ma : Nat → Nat) (M : Nat → Int) (R : Nat → Nat → Int) (hI : SI R) (y1 : Int) (ry1 : -2147483648 ≤ y1 ∧ y1 < 2147483648) (q1 : Int) (rq1 : -2147483648 ≤ q1 ∧ q1 < 2147483648) (B : Nat → Nat → Nat → Int) (hn5 : 0 ≤ M 5 ∧ M 5 ≤ 14)  : Met l yX10_reign wsX10_reign { frames := 2, cells := 0, slots := 0, locals := 45 } (va_Pc [Value.ref (ma 0), Value.int (iI y1), Value.int (iI q1)] (rwW g τ ([moO ma M, arC (ma 1) (τ 0) 291 (flR R), arC (ma 4) (τ 0) 4074 (bkF B)]))) (rwQ g (fun v w => ∃ M2 : Nat → Int, M2 9 = M 9 ∧ (((aReign R y1 q1).1 < 0 ∧ v = some (Value.int (iI 0)) ∧ M2 0 = cd3 (aReign R y1 q1).1 0 1 2 ∧ M2 5 = M 5 ∧ w = [moO ma M2, arC (ma 1) (τ 0) 291 (flR R), arC (ma 4) (τ 0) 4074 (bkF B)]) ∨ (0 ≤ (aReign R y1 q1).1 ∧ v = some (Value.int (iI (aReign R y1 q1).1)) ∧ M2 0 = 0 ∧ M2 5 = (rmB (M 5) B R).1 ∧ w = [moO ma M2, arC (ma 1) (τ 0) 291 (flR (aReign R y1 q1).2), arC (ma 4) (τ 0) 4074 (bkF (rmB (M 5) B R).2)]))) (inW ([moO ma M, arC (ma 1) (τ 0) 291 (flR R), arC (ma 4) (τ 0) 4074 (bkF B)]))) 0 0 (inW ([moO ma M, arC (ma 1) (τ 0) 291 (flR R), arC (ma 4) (τ 0) 4074 (bkF B)])) := by
  have hB := hI.hB
  have hr0 := hI.r
  have hd0 := hI.d
  have hs0 := hI.s
  refine rwMet (cc := cX10_reign) (maxL := 3) (ret := (some .int)) (lv := [(0, Value.ref (ma 0)), (1, Value.int (iI y1)), (2, Value.int (iI q1))]) (by decide) rfl (Nat.le_of_ble_eq_true rfl) rfl ?_
  intro p e s m below meth c hx hb hr hml hts hown hlocks A H hP hD hS hK ls hl
  refine lv_aload_n hx hb dX10_reign_0 rfl (lv_at hl 0 rfl) ?_
  refine lv_iload_n hx hb dX10_reign_1 rfl (lv_at hl 1 rfl) ?_
  refine ro_S (As := [Value.int (iI y1)]) (rest := [Value.ref (ma 0)]) (v := some (Value.int (iI (zB (decide (1000 ≤ y1 ∧ y1 ≤ 1999)))))) ⟨hx, hb, hml, hown, hts⟩ (c_X10_isYear l g τ y1 ⟨by omega, by omega⟩) gX10_reign_X10_isYear cd_X10_isYear rfl ⟨rfl, rfl⟩ ⟨Nat.le_of_ble_eq_true rfl, Nat.le_of_ble_eq_true rfl⟩ hK (fun _ _ h => by cases h) rfl hl rfl (Nat.le_of_ble_eq_true rfl) dX10_reign_2 ⟨Nat.le_of_ble_eq_true rfl, Nat.le_of_ble_eq_true rfl⟩ ?_
  refine tl_some ?_
  refine zb_if_eq (tgt := 20) hx hb dX10_reign_5 (by decide) (fun c_1 => ?_) (fun c_1 => ?_)
  · have cd_c_1 := of_decide_eq_false c_1
    refine lv_iconst (v := iI 1) hx hb dX10_reign_20 (by decide) ?_
    refine lv_goto (tgt := 40) hx hb dX10_reign_21 (by decide) ?_
    refine rw_V (As := [Value.int (iI 1)]) (rest := []) ⟨hx, hb, hml, hown, hts⟩ (c_X10_refused l g τ ma M 1 ⟨by decide, by decide⟩) gX10_reign_X10_refused cd_X10_refused rfl rfl ⟨rfl, rfl⟩ ⟨Nat.le_of_ble_eq_true rfl, Nat.le_of_ble_eq_true rfl⟩ hK hP hD hS [0] (rfl) (by decide) 0 rfl rfl rfl rfl hl rfl (Nat.le_of_ble_eq_true rfl) dX10_reign_40 ⟨Nat.le_of_ble_eq_true rfl, Nat.le_of_ble_eq_true rfl⟩ (fun v w h => by rw [h.2]; rfl) (fun v w1 H locs hZ hP hD hS => ?_)
    obtain ⟨rfl, rfl⟩ := hZ
    have hP : va_P g vwCl ([moO ma (updZ M 0 1), arC (ma 1) (τ 0) 291 (flR R), arC (ma 4) (τ 0) 4074 (bkF B)]) H := hP
    have hD : va_D A ([moO ma (updZ M 0 1), arC (ma 1) (τ 0) 291 (flR R), arC (ma 4) (τ 0) 4074 (bkF B)]) := hD
    refine tl_some ?_
    refine cv_i (y := iI 1) (congrArg iI (if_neg (by decide))) ?_
    refine zi_if_eq (tgt := 48) hx hb ⟨by decide, by decide⟩ dX10_reign_43 (by decide) (fun c_2 => ?_) (fun c_2 => ?_)
    · exact absurd c_2 (by decide)
    refine lv_iconst (v := iI 0) hx hb dX10_reign_46 (by decide) ?_
    exact rw_iret hx hb hr hlocks hP hS (by first | (have ha : aReign R y1 q1 = (-3, R) := (by unfold aReign; rw [if_pos (by unfold isY; omega)]); exact ⟨(updZ M 0 1), by show M 9 = M 9; first | rfl | omega, Or.inl ⟨by rw [ha]; show (-3 : Int) < 0; decide, rfl, by rw [ha]; show 1 = _; rfl, by show M 5 = M 5; first | rfl | omega, rfl⟩⟩)) dX10_reign_47
  · have cd_c_1 := of_decide_eq_true c_1
    refine lv_iload_n hx hb dX10_reign_8 rfl (lv_at hl 2 rfl) ?_
    refine lv_i2l (v := (iI q1).toInt64) hx hb dX10_reign_9 rfl ?_
    refine cv_l (y := iL q1) (i2l_iL ⟨by omega, by omega⟩) ?_
    refine lv_lconst (v := 1) hx hb dX10_reign_10 (by decide) ?_
    refine cv_l (y := iL 1) (by decide) ?_
    refine lv_ldc2 (v := 255) hx hb hown (hts _ (List.mem_of_getElem? (i := 1) rfl)) dX10_reign_11 ?_
    refine cv_l (y := iL 255) (by decide) ?_
    refine ro_S (As := [Value.long (iL q1), Value.long (iL 1), Value.long (iL 255)]) (rest := [Value.ref (ma 0)]) (v := some (Value.int (iI (zB (decide (1 ≤ q1 ∧ q1 ≤ 255)))))) ⟨hx, hb, hml, hown, hts⟩ (c_X10_in l g τ q1 1 255 ⟨by omega, by omega⟩ ⟨by omega, by omega⟩ ⟨by omega, by omega⟩) gX10_reign_X10_in cd_X10_in rfl ⟨rfl, rfl⟩ ⟨Nat.le_of_ble_eq_true rfl, Nat.le_of_ble_eq_true rfl⟩ hK (fun _ _ h => by cases h) rfl hl rfl (Nat.le_of_ble_eq_true rfl) dX10_reign_14 ⟨Nat.le_of_ble_eq_true rfl, Nat.le_of_ble_eq_true rfl⟩ ?_
    refine tl_some ?_
    refine zb_if_ne (tgt := 24) hx hb dX10_reign_17 (by decide) (fun c_3 => ?_) (fun c_3 => ?_)
    · have cd_c_3 := of_decide_eq_true c_3
      refine lv_aload_n hx hb dX10_reign_24 rfl (lv_at hl 0 rfl) ?_
      refine va_get (D := g) (ci := 10) (v := Value.ref (ma 1)) (C := RX10) (T := TX10) (N := 18) hx hb hts in_X10_reign_X10 hown hK.1 hP 0 (rfl) rfl 1 (by decide) (hts _ (List.mem_of_getElem? (i := 2) rfl) : (Cond.fieldLink RX10 7 "CordSealsModel" "now" "[I").before _ s = true) (fun _ h9 => h9) rfl dX10_reign_25 ?_
      refine lv_iload_n hx hb dX10_reign_28 rfl (lv_at hl 1 rfl) ?_
      refine ro_S (As := [Value.ref (ma 1), Value.int (iI y1)]) (rest := [Value.ref (ma 0)]) (v := some (Value.int (iI (zB (decide (R 1 0 < 10 ∧ (R 1 0 = 0 ∨ R 2 ((R 1 0).toNat - 1) < y1))))))) ⟨hx, hb, hml, hown, hts⟩ (c_X10_canReign l g τ (ma 1) R hI y1 ⟨by omega, by omega⟩) gX10_reign_X10_canReign cd_X10_canReign rfl ⟨rfl, rfl⟩ ⟨Nat.le_of_ble_eq_true rfl, Nat.le_of_ble_eq_true rfl⟩ hK (cut_P (is := [1]) hP rfl) rfl hl rfl (Nat.le_of_ble_eq_true rfl) dX10_reign_29 ⟨Nat.le_of_ble_eq_true rfl, Nat.le_of_ble_eq_true rfl⟩ ?_
      refine tl_some ?_
      refine zb_if_ne (tgt := 39) hx hb dX10_reign_32 (by decide) (fun c_4 => ?_) (fun c_4 => ?_)
      · have cd_c_4 := of_decide_eq_true c_4
        refine lv_iconst (v := iI 0) hx hb dX10_reign_39 (by decide) ?_
        refine rw_V (As := [Value.int (iI 0)]) (rest := []) ⟨hx, hb, hml, hown, hts⟩ (c_X10_refused l g τ ma M 0 ⟨by decide, by decide⟩) gX10_reign_X10_refused cd_X10_refused rfl rfl ⟨rfl, rfl⟩ ⟨Nat.le_of_ble_eq_true rfl, Nat.le_of_ble_eq_true rfl⟩ hK hP hD hS [0] (rfl) (by decide) 0 rfl rfl rfl rfl hl rfl (Nat.le_of_ble_eq_true rfl) dX10_reign_40 ⟨Nat.le_of_ble_eq_true rfl, Nat.le_of_ble_eq_true rfl⟩ (fun v w h => by rw [h.2]; rfl) (fun v w1 H locs hZ hP hD hS => ?_)
        obtain ⟨rfl, rfl⟩ := hZ
        have hP : va_P g vwCl ([moO ma (updZ M 0 0), arC (ma 1) (τ 0) 291 (flR R), arC (ma 4) (τ 0) 4074 (bkF B)]) H := hP
        have hD : va_D A ([moO ma (updZ M 0 0), arC (ma 1) (τ 0) 291 (flR R), arC (ma 4) (τ 0) 4074 (bkF B)]) := hD
        refine tl_some ?_
        refine cv_i (y := iI 0) (congrArg iI (if_pos rfl)) ?_
        refine zi_if_eq (tgt := 48) hx hb ⟨by decide, by decide⟩ dX10_reign_43 (by decide) (fun c_5 => ?_) (fun c_5 => ?_)
        · skip
          refine lv_aload_n hx hb dX10_reign_48 rfl (lv_at hl 0 rfl) ?_
          refine rw_V (As := []) (rest := []) ⟨hx, hb, hml, hown, hts⟩ (c_X10_remember l g τ ma (updZ M 0 0) R hI B (by show 0 ≤ M 5 ∧ M 5 ≤ 14; omega)) gX10_reign_X10_remember cd_X10_remember rfl rfl ⟨rfl, rfl⟩ ⟨Nat.le_of_ble_eq_true rfl, Nat.le_of_ble_eq_true rfl⟩ hK hP hD hS [0, 1, 2] (rfl) (by decide) 0 rfl rfl rfl rfl hl rfl (Nat.le_of_ble_eq_true rfl) dX10_reign_49 ⟨Nat.le_of_ble_eq_true rfl, Nat.le_of_ble_eq_true rfl⟩ (fun v w h => by obtain ⟨-, M9, -, -, -, rfl⟩ := h; rfl) (fun v w1 H locs hZ hP hD hS => ?_)
          obtain ⟨rfl, M_6, hfM_6_0, hfM_6_5, hfM_6_9, rfl⟩ := hZ
          have hP : va_P g vwCl ([moO ma M_6, arC (ma 1) (τ 0) 291 (flR R), arC (ma 4) (τ 0) 4074 (bkF (rmB (M 5) B R).2)]) H := hP
          have hD : va_D A ([moO ma M_6, arC (ma 1) (τ 0) 291 (flR R), arC (ma 4) (τ 0) 4074 (bkF (rmB (M 5) B R).2)]) := hD
          have hfM_6_0 : M_6 0 = 0 := hfM_6_0
          have hfM_6_5 : M_6 5 = (rmB (M 5) B R).1 := hfM_6_5
          have hfM_6_9 : M_6 9 = M 9 := hfM_6_9
          refine tl_none ?_
          refine lv_aload_n hx hb dX10_reign_52 rfl (lv_at hl 0 rfl) ?_
          refine va_get (D := g) (ci := 10) (v := Value.ref (ma 1)) (C := RX10) (T := TX10) (N := 18) hx hb hts in_X10_reign_X10 hown hK.1 hP 0 (rfl) rfl 1 (by decide) (hts _ (List.mem_of_getElem? (i := 2) rfl) : (Cond.fieldLink RX10 7 "CordSealsModel" "now" "[I").before _ s = true) (fun _ h9 => h9) rfl dX10_reign_53 ?_
          refine lv_iload_n hx hb dX10_reign_56 rfl (lv_at hl 1 rfl) ?_
          refine lv_iload_n hx hb dX10_reign_57 rfl (lv_at hl 2 rfl) ?_
          refine rw_S (As := [Value.ref (ma 1), Value.int (iI y1), Value.int (iI q1)]) (rest := []) ⟨hx, hb, hml, hown, hts⟩ (c_X10_goReign l g τ (ma 1) R hI y1 ⟨by omega, by omega⟩ q1 ⟨by omega, by omega⟩ (by omega)) gX10_reign_X10_goReign cd_X10_goReign rfl ⟨rfl, rfl⟩ ⟨Nat.le_of_ble_eq_true rfl, Nat.le_of_ble_eq_true rfl⟩ hK hP hD hS [1] (rfl) (by decide) rfl hl rfl (Nat.le_of_ble_eq_true rfl) dX10_reign_58 ⟨Nat.le_of_ble_eq_true rfl, Nat.le_of_ble_eq_true rfl⟩ (fun v w h => by rw [h.2]; exact f_fl _ _ _ _) (fun v w1 H locs hZ hP hD hS => ?_)
          obtain ⟨rfl, rfl⟩ := hZ
          have hP : va_P g vwCl ([moO ma M_6, arC (ma 1) (τ 0) 291 (flR (u2 (u2 (u2 R 2 (updZ (R 2) (R 1 0).toNat y1)) 3 (updZ (R 3) (R 1 0).toNat q1)) 1 (fun _ => R 1 0 + 1))), arC (ma 4) (τ 0) 4074 (bkF (rmB (M 5) B R).2)]) H := hP
          have hD : va_D A ([moO ma M_6, arC (ma 1) (τ 0) 291 (flR (u2 (u2 (u2 R 2 (updZ (R 2) (R 1 0).toNat y1)) 3 (updZ (R 3) (R 1 0).toNat q1)) 1 (fun _ => R 1 0 + 1))), arC (ma 4) (τ 0) 4074 (bkF (rmB (M 5) B R).2)]) := hD
          refine tl_some ?_
          exact rw_iret hx hb hr hlocks hP hS (by first | (have ha : aReign R y1 q1 = (R 1 0, u2 (u2 (u2 R 2 (updZ (R 2) (R 1 0).toNat y1)) 3 (updZ (R 3) (R 1 0).toNat q1)) 1 (fun _ => R 1 0 + 1)) := (by unfold aReign; rw [if_neg (by unfold isY; omega), if_neg (fun z => absurd ((kB_p hr0.1).mp z) (by omega))]); exact ⟨M_6, by show M_6 9 = M 9; first | rfl | omega, Or.inr ⟨by rw [ha]; show (0 : Int) ≤ R 1 0; omega, by rw [ha], by show M_6 0 = 0; first | rfl | omega, by show M_6 5 = _; first | rfl | omega, by rw [ha]⟩⟩)) dX10_reign_61
        · exact absurd c_5 (by decide)
      · have cd_c_4 := of_decide_eq_false c_4
        refine lv_iconst (v := iI 2) hx hb dX10_reign_35 (by decide) ?_
        refine lv_goto (tgt := 40) hx hb dX10_reign_36 (by decide) ?_
        refine rw_V (As := [Value.int (iI 2)]) (rest := []) ⟨hx, hb, hml, hown, hts⟩ (c_X10_refused l g τ ma M 2 ⟨by decide, by decide⟩) gX10_reign_X10_refused cd_X10_refused rfl rfl ⟨rfl, rfl⟩ ⟨Nat.le_of_ble_eq_true rfl, Nat.le_of_ble_eq_true rfl⟩ hK hP hD hS [0] (rfl) (by decide) 0 rfl rfl rfl rfl hl rfl (Nat.le_of_ble_eq_true rfl) dX10_reign_40 ⟨Nat.le_of_ble_eq_true rfl, Nat.le_of_ble_eq_true rfl⟩ (fun v w h => by rw [h.2]; rfl) (fun v w1 H locs hZ hP hD hS => ?_)
        obtain ⟨rfl, rfl⟩ := hZ
        have hP : va_P g vwCl ([moO ma (updZ M 0 2), arC (ma 1) (τ 0) 291 (flR R), arC (ma 4) (τ 0) 4074 (bkF B)]) H := hP
        have hD : va_D A ([moO ma (updZ M 0 2), arC (ma 1) (τ 0) 291 (flR R), arC (ma 4) (τ 0) 4074 (bkF B)]) := hD
        refine tl_some ?_
        refine cv_i (y := iI 1) (congrArg iI (if_neg (by decide))) ?_
        refine zi_if_eq (tgt := 48) hx hb ⟨by decide, by decide⟩ dX10_reign_43 (by decide) (fun c_7 => ?_) (fun c_7 => ?_)
        · exact absurd c_7 (by decide)
        refine lv_iconst (v := iI 0) hx hb dX10_reign_46 (by decide) ?_
        exact rw_iret hx hb hr hlocks hP hS (by first | (have ha : aReign R y1 q1 = (-4, R) := (by unfold aReign; rw [if_neg (by unfold isY; omega), if_pos ((kB_p hr0.1).mpr (by omega))]); exact ⟨(updZ M 0 2), by show M 9 = M 9; first | rfl | omega, Or.inl ⟨by rw [ha]; show (-4 : Int) < 0; decide, rfl, by rw [ha]; show 2 = _; rfl, by show M 5 = M 5; first | rfl | omega, rfl⟩⟩)) dX10_reign_47
    · have cd_c_3 := of_decide_eq_false c_3
      refine lv_iconst (v := iI 1) hx hb dX10_reign_20 (by decide) ?_
      refine lv_goto (tgt := 40) hx hb dX10_reign_21 (by decide) ?_
      refine rw_V (As := [Value.int (iI 1)]) (rest := []) ⟨hx, hb, hml, hown, hts⟩ (c_X10_refused l g τ ma M 1 ⟨by decide, by decide⟩) gX10_reign_X10_refused cd_X10_refused rfl rfl ⟨rfl, rfl⟩ ⟨Nat.le_of_ble_eq_true rfl, Nat.le_of_ble_eq_true rfl⟩ hK hP hD hS [0] (rfl) (by decide) 0 rfl rfl rfl rfl hl rfl (Nat.le_of_ble_eq_true rfl) dX10_reign_40 ⟨Nat.le_of_ble_eq_true rfl, Nat.le_of_ble_eq_true rfl⟩ (fun v w h => by rw [h.2]; rfl) (fun v w1 H locs hZ hP hD hS => ?_)
      obtain ⟨rfl, rfl⟩ := hZ
      have hP : va_P g vwCl ([moO ma (updZ M 0 1), arC (ma 1) (τ 0) 291 (flR R), arC (ma 4) (τ 0) 4074 (bkF B)]) H := hP
      have hD : va_D A ([moO ma (updZ M 0 1), arC (ma 1) (τ 0) 291 (flR R), arC (ma 4) (τ 0) 4074 (bkF B)]) := hD
      refine tl_some ?_
      refine cv_i (y := iI 1) (congrArg iI (if_neg (by decide))) ?_
      refine zi_if_eq (tgt := 48) hx hb ⟨by decide, by decide⟩ dX10_reign_43 (by decide) (fun c_8 => ?_) (fun c_8 => ?_)
      · exact absurd c_8 (by decide)
      refine lv_iconst (v := iI 0) hx hb dX10_reign_46 (by decide) ?_
      exact rw_iret hx hb hr hlocks hP hS (by first | (have ha : aReign R y1 q1 = (-3, R) := (by unfold aReign; rw [if_pos (by unfold isY; omega)]); exact ⟨(updZ M 0 1), by show M 9 = M 9; first | rfl | omega, Or.inl ⟨by rw [ha]; show (-3 : Int) < 0; decide, rfl, by rw [ha]; show 1 = _; rfl, by show M 5 = M 5; first | rfl | omega, rfl⟩⟩)) dX10_reign_47

theorem cd_X10_die : cd yX10_die 3 := by decide +kernel
theorem in_X10_die_X10 : ∀ w ∈ wsX100, w ∈ wsX10_die := by decide +kernel
set_option maxHeartbeats 2000000 in
set_option maxRecDepth 100000 in
theorem c_X10_die (l : Launch) (g : va_G) (τ : Nat → ClassId) (ma : Nat → Nat) (M : Nat → Int) (R : Nat → Nat → Int) (hI : SI R) (y1 : Int) (ry1 : -2147483648 ≤ y1 ∧ y1 < 2147483648) (q1 : Int) (rq1 : -2147483648 ≤ q1 ∧ q1 < 2147483648) (z1 : Int) (rz1 : -2147483648 ≤ z1 ∧ z1 < 2147483648) (B : Nat → Nat → Nat → Int) (hn5 : 0 ≤ M 5 ∧ M 5 ≤ 14)  : Met l yX10_die wsX10_die { frames := 3, cells := 0, slots := 0, locals := 66 } (va_Pc [Value.ref (ma 0), Value.int (iI y1), Value.int (iI q1), Value.int (iI z1)] (rwW g τ ([moO ma M, arC (ma 1) (τ 0) 291 (flR R), arC (ma 4) (τ 0) 4074 (bkF B)]))) (rwQ g (fun v w => ∃ M2 : Nat → Int, M2 9 = M 9 ∧ (((aDie R y1 q1 z1).1 < 0 ∧ v = some (Value.int (iI 0)) ∧ M2 0 = cd3 (aDie R y1 q1 z1).1 0 1 2 ∧ M2 5 = M 5 ∧ w = [moO ma M2, arC (ma 1) (τ 0) 291 (flR R), arC (ma 4) (τ 0) 4074 (bkF B)]) ∨ (0 ≤ (aDie R y1 q1 z1).1 ∧ v = some (Value.int (iI (aDie R y1 q1 z1).1)) ∧ M2 0 = 0 ∧ M2 5 = (rmB (M 5) B R).1 ∧ w = [moO ma M2, arC (ma 1) (τ 0) 291 (flR (aDie R y1 q1 z1).2), arC (ma 4) (τ 0) 4074 (bkF (rmB (M 5) B R).2)]))) (inW ([moO ma M, arC (ma 1) (τ 0) 291 (flR R), arC (ma 4) (τ 0) 4074 (bkF B)]))) 0 0 (inW ([moO ma M, arC (ma 1) (τ 0) 291 (flR R), arC (ma 4) (τ 0) 4074 (bkF B)])) := by
  have hB := hI.hB
  have hr0 := hI.r
  have hd0 := hI.d
  have hs0 := hI.s
  refine rwMet (cc := cX10_die) (maxL := 4) (ret := (some .int)) (lv := [(0, Value.ref (ma 0)), (1, Value.int (iI y1)), (2, Value.int (iI q1)), (3, Value.int (iI z1))]) (by decide) rfl (Nat.le_of_ble_eq_true rfl) rfl ?_
  intro p e s m below meth c hx hb hr hml hts hown hlocks A H hP hD hS hK ls hl
  refine lv_aload_n hx hb dX10_die_0 rfl (lv_at hl 0 rfl) ?_
  refine lv_iload_n hx hb dX10_die_1 rfl (lv_at hl 1 rfl) ?_
  refine lv_i2l (v := (iI y1).toInt64) hx hb dX10_die_2 rfl ?_
  refine cv_l (y := iL y1) (i2l_iL ⟨by omega, by omega⟩) ?_
  refine lv_lconst (v := 0) hx hb dX10_die_3 (by decide) ?_
  refine cv_l (y := iL 0) (by decide) ?_
  refine lv_ldc2 (v := 5) hx hb hown (hts _ (List.mem_of_getElem? (i := 1) rfl)) dX10_die_4 ?_
  refine cv_l (y := iL 5) (by decide) ?_
  refine ro_S (As := [Value.long (iL y1), Value.long (iL 0), Value.long (iL 5)]) (rest := [Value.ref (ma 0)]) (v := some (Value.int (iI (zB (decide (0 ≤ y1 ∧ y1 ≤ 5)))))) ⟨hx, hb, hml, hown, hts⟩ (c_X10_in l g τ y1 0 5 ⟨by omega, by omega⟩ ⟨by omega, by omega⟩ ⟨by omega, by omega⟩) gX10_die_X10_in cd_X10_in rfl ⟨rfl, rfl⟩ ⟨Nat.le_of_ble_eq_true rfl, Nat.le_of_ble_eq_true rfl⟩ hK (fun _ _ h => by cases h) rfl hl rfl (Nat.le_of_ble_eq_true rfl) dX10_die_7 ⟨Nat.le_of_ble_eq_true rfl, Nat.le_of_ble_eq_true rfl⟩ ?_
  refine tl_some ?_
  refine zb_if_eq (tgt := 21) hx hb dX10_die_10 (by decide) (fun c_1 => ?_) (fun c_1 => ?_)
  · have cd_c_1 := of_decide_eq_false c_1
    refine lv_iconst (v := iI 1) hx hb dX10_die_21 (by decide) ?_
    refine lv_goto (tgt := 41) hx hb dX10_die_22 (by decide) ?_
    refine rw_V (As := [Value.int (iI 1)]) (rest := []) ⟨hx, hb, hml, hown, hts⟩ (c_X10_refused l g τ ma M 1 ⟨by decide, by decide⟩) gX10_die_X10_refused cd_X10_refused rfl rfl ⟨rfl, rfl⟩ ⟨Nat.le_of_ble_eq_true rfl, Nat.le_of_ble_eq_true rfl⟩ hK hP hD hS [0] (rfl) (by decide) 0 rfl rfl rfl rfl hl rfl (Nat.le_of_ble_eq_true rfl) dX10_die_41 ⟨Nat.le_of_ble_eq_true rfl, Nat.le_of_ble_eq_true rfl⟩ (fun v w h => by rw [h.2]; rfl) (fun v w1 H locs hZ hP hD hS => ?_)
    obtain ⟨rfl, rfl⟩ := hZ
    have hP : va_P g vwCl ([moO ma (updZ M 0 1), arC (ma 1) (τ 0) 291 (flR R), arC (ma 4) (τ 0) 4074 (bkF B)]) H := hP
    have hD : va_D A ([moO ma (updZ M 0 1), arC (ma 1) (τ 0) 291 (flR R), arC (ma 4) (τ 0) 4074 (bkF B)]) := hD
    refine tl_some ?_
    refine cv_i (y := iI 1) (congrArg iI (if_neg (by decide))) ?_
    refine zi_if_eq (tgt := 49) hx hb ⟨by decide, by decide⟩ dX10_die_44 (by decide) (fun c_2 => ?_) (fun c_2 => ?_)
    · exact absurd c_2 (by decide)
    refine lv_iconst (v := iI 0) hx hb dX10_die_47 (by decide) ?_
    exact rw_iret hx hb hr hlocks hP hS (by first | (have ha : aDie R y1 q1 z1 = (-3, R) := (by unfold aDie; rw [if_pos (by unfold isY; omega)]); exact ⟨(updZ M 0 1), by show M 9 = M 9; first | rfl | omega, Or.inl ⟨by rw [ha]; show (-3 : Int) < 0; decide, rfl, by rw [ha]; show 1 = _; rfl, by show M 5 = M 5; first | rfl | omega, rfl⟩⟩)) dX10_die_48
  · have cd_c_1 := of_decide_eq_true c_1
    refine lv_iload_n hx hb dX10_die_13 rfl (lv_at hl 2 rfl) ?_
    refine lv_iload_n hx hb dX10_die_14 rfl (lv_at hl 3 rfl) ?_
    refine ro_S (As := [Value.int (iI q1), Value.int (iI z1)]) (rest := [Value.ref (ma 0)]) (v := some (Value.int (iI (zB (decide ((1000 ≤ q1 ∧ q1 ≤ 1999) ∧ (q1 ≤ z1 ∧ z1 ≤ 1999))))))) ⟨hx, hb, hml, hown, hts⟩ (c_X10_areYears l g τ q1 ⟨by omega, by omega⟩ z1 ⟨by omega, by omega⟩) gX10_die_X10_areYears cd_X10_areYears rfl ⟨rfl, rfl⟩ ⟨Nat.le_of_ble_eq_true rfl, Nat.le_of_ble_eq_true rfl⟩ hK (fun _ _ h => by cases h) rfl hl rfl (Nat.le_of_ble_eq_true rfl) dX10_die_15 ⟨Nat.le_of_ble_eq_true rfl, Nat.le_of_ble_eq_true rfl⟩ ?_
    refine tl_some ?_
    refine zb_if_ne (tgt := 25) hx hb dX10_die_18 (by decide) (fun c_3 => ?_) (fun c_3 => ?_)
    · have cd_c_3 := of_decide_eq_true c_3
      refine lv_aload_n hx hb dX10_die_25 rfl (lv_at hl 0 rfl) ?_
      refine va_get (D := g) (ci := 10) (v := Value.ref (ma 1)) (C := RX10) (T := TX10) (N := 18) hx hb hts in_X10_die_X10 hown hK.1 hP 0 (rfl) rfl 1 (by decide) (hts _ (List.mem_of_getElem? (i := 2) rfl) : (Cond.fieldLink RX10 7 "CordSealsModel" "now" "[I").before _ s = true) (fun _ h9 => h9) rfl dX10_die_26 ?_
      refine lv_iconst (v := iI 1) hx hb dX10_die_29 (by decide) ?_
      refine zf_ald hx hb hK hP 1 (f := flR R) rfl (1) (rfl) (by omega) (by decide) (z := R 4 0) (fl_4) dX10_die_30 ?_
      have hb_4 := hB 4 0
      refine lv_bipush (v := iI 10) hx hb dX10_die_31 (by decide) ?_
      refine zi_icmp_ne (tgt := 40) hx hb ⟨by omega, by omega⟩ ⟨by decide, by decide⟩ dX10_die_33 (by decide) (fun c_5 => ?_) (fun c_5 => ?_)
      · have _ := c_5
        refine lv_iconst (v := iI 0) hx hb dX10_die_40 (by decide) ?_
        refine rw_V (As := [Value.int (iI 0)]) (rest := []) ⟨hx, hb, hml, hown, hts⟩ (c_X10_refused l g τ ma M 0 ⟨by decide, by decide⟩) gX10_die_X10_refused cd_X10_refused rfl rfl ⟨rfl, rfl⟩ ⟨Nat.le_of_ble_eq_true rfl, Nat.le_of_ble_eq_true rfl⟩ hK hP hD hS [0] (rfl) (by decide) 0 rfl rfl rfl rfl hl rfl (Nat.le_of_ble_eq_true rfl) dX10_die_41 ⟨Nat.le_of_ble_eq_true rfl, Nat.le_of_ble_eq_true rfl⟩ (fun v w h => by rw [h.2]; rfl) (fun v w1 H locs hZ hP hD hS => ?_)
        obtain ⟨rfl, rfl⟩ := hZ
        have hP : va_P g vwCl ([moO ma (updZ M 0 0), arC (ma 1) (τ 0) 291 (flR R), arC (ma 4) (τ 0) 4074 (bkF B)]) H := hP
        have hD : va_D A ([moO ma (updZ M 0 0), arC (ma 1) (τ 0) 291 (flR R), arC (ma 4) (τ 0) 4074 (bkF B)]) := hD
        refine tl_some ?_
        refine cv_i (y := iI 0) (congrArg iI (if_pos rfl)) ?_
        refine zi_if_eq (tgt := 49) hx hb ⟨by decide, by decide⟩ dX10_die_44 (by decide) (fun c_6 => ?_) (fun c_6 => ?_)
        · skip
          refine lv_aload_n hx hb dX10_die_49 rfl (lv_at hl 0 rfl) ?_
          refine rw_V (As := []) (rest := []) ⟨hx, hb, hml, hown, hts⟩ (c_X10_remember l g τ ma (updZ M 0 0) R hI B (by show 0 ≤ M 5 ∧ M 5 ≤ 14; omega)) gX10_die_X10_remember cd_X10_remember rfl rfl ⟨rfl, rfl⟩ ⟨Nat.le_of_ble_eq_true rfl, Nat.le_of_ble_eq_true rfl⟩ hK hP hD hS [0, 1, 2] (rfl) (by decide) 0 rfl rfl rfl rfl hl rfl (Nat.le_of_ble_eq_true rfl) dX10_die_50 ⟨Nat.le_of_ble_eq_true rfl, Nat.le_of_ble_eq_true rfl⟩ (fun v w h => by obtain ⟨-, M9, -, -, -, rfl⟩ := h; rfl) (fun v w1 H locs hZ hP hD hS => ?_)
          obtain ⟨rfl, M_7, hfM_7_0, hfM_7_5, hfM_7_9, rfl⟩ := hZ
          have hP : va_P g vwCl ([moO ma M_7, arC (ma 1) (τ 0) 291 (flR R), arC (ma 4) (τ 0) 4074 (bkF (rmB (M 5) B R).2)]) H := hP
          have hD : va_D A ([moO ma M_7, arC (ma 1) (τ 0) 291 (flR R), arC (ma 4) (τ 0) 4074 (bkF (rmB (M 5) B R).2)]) := hD
          have hfM_7_0 : M_7 0 = 0 := hfM_7_0
          have hfM_7_5 : M_7 5 = (rmB (M 5) B R).1 := hfM_7_5
          have hfM_7_9 : M_7 9 = M 9 := hfM_7_9
          refine tl_none ?_
          refine lv_aload_n hx hb dX10_die_53 rfl (lv_at hl 0 rfl) ?_
          refine va_get (D := g) (ci := 10) (v := Value.ref (ma 1)) (C := RX10) (T := TX10) (N := 18) hx hb hts in_X10_die_X10 hown hK.1 hP 0 (rfl) rfl 1 (by decide) (hts _ (List.mem_of_getElem? (i := 2) rfl) : (Cond.fieldLink RX10 7 "CordSealsModel" "now" "[I").before _ s = true) (fun _ h9 => h9) rfl dX10_die_54 ?_
          refine lv_iload_n hx hb dX10_die_57 rfl (lv_at hl 1 rfl) ?_
          refine lv_iload_n hx hb dX10_die_58 rfl (lv_at hl 2 rfl) ?_
          refine lv_iload_n hx hb dX10_die_59 rfl (lv_at hl 3 rfl) ?_
          refine rw_S (As := [Value.ref (ma 1), Value.int (iI y1), Value.int (iI q1), Value.int (iI z1)]) (rest := []) ⟨hx, hb, hml, hown, hts⟩ (c_X10_goDie l g τ (ma 1) R hI y1 ⟨by omega, by omega⟩ q1 ⟨by omega, by omega⟩ z1 ⟨by omega, by omega⟩ (by omega)) gX10_die_X10_goDie cd_X10_goDie rfl ⟨rfl, rfl⟩ ⟨Nat.le_of_ble_eq_true rfl, Nat.le_of_ble_eq_true rfl⟩ hK hP hD hS [1] (rfl) (by decide) rfl hl rfl (Nat.le_of_ble_eq_true rfl) dX10_die_60 ⟨Nat.le_of_ble_eq_true rfl, Nat.le_of_ble_eq_true rfl⟩ (fun v w h => by rw [h.2]; exact f_fl _ _ _ _) (fun v w1 H locs hZ hP hD hS => ?_)
          obtain ⟨rfl, rfl⟩ := hZ
          have hP : va_P g vwCl ([moO ma M_7, arC (ma 1) (τ 0) 291 (flR (u2 (u2 (u2 (u2 (u2 R 5 (updZ (R 5) (R 4 0).toNat y1)) 6 (updZ (R 6) (R 4 0).toNat q1)) 7 (updZ (R 7) (R 4 0).toNat z1)) 8 (updZ (R 8) (R 4 0).toNat 0)) 4 (fun _ => R 4 0 + 1))), arC (ma 4) (τ 0) 4074 (bkF (rmB (M 5) B R).2)]) H := hP
          have hD : va_D A ([moO ma M_7, arC (ma 1) (τ 0) 291 (flR (u2 (u2 (u2 (u2 (u2 R 5 (updZ (R 5) (R 4 0).toNat y1)) 6 (updZ (R 6) (R 4 0).toNat q1)) 7 (updZ (R 7) (R 4 0).toNat z1)) 8 (updZ (R 8) (R 4 0).toNat 0)) 4 (fun _ => R 4 0 + 1))), arC (ma 4) (τ 0) 4074 (bkF (rmB (M 5) B R).2)]) := hD
          refine tl_some ?_
          exact rw_iret hx hb hr hlocks hP hS (by first | (have ha : aDie R y1 q1 z1 = (R 4 0, u2 (u2 (u2 (u2 (u2 R 5 (updZ (R 5) (R 4 0).toNat y1)) 6 (updZ (R 6) (R 4 0).toNat q1)) 7 (updZ (R 7) (R 4 0).toNat z1)) 8 (updZ (R 8) (R 4 0).toNat 0)) 4 (fun _ => R 4 0 + 1)) := (by unfold aDie; rw [if_neg (by unfold isY; omega), if_neg (by omega)]); exact ⟨M_7, by show M_7 9 = M 9; first | rfl | omega, Or.inr ⟨by rw [ha]; show (0 : Int) ≤ R 4 0; omega, by rw [ha], by show M_7 0 = 0; first | rfl | omega, by show M_7 5 = _; first | rfl | omega, by rw [ha]⟩⟩)) dX10_die_63
        · exact absurd c_6 (by decide)
      · have _ := c_5
        refine lv_iconst (v := iI 2) hx hb dX10_die_36 (by decide) ?_
        refine lv_goto (tgt := 41) hx hb dX10_die_37 (by decide) ?_
        refine rw_V (As := [Value.int (iI 2)]) (rest := []) ⟨hx, hb, hml, hown, hts⟩ (c_X10_refused l g τ ma M 2 ⟨by decide, by decide⟩) gX10_die_X10_refused cd_X10_refused rfl rfl ⟨rfl, rfl⟩ ⟨Nat.le_of_ble_eq_true rfl, Nat.le_of_ble_eq_true rfl⟩ hK hP hD hS [0] (rfl) (by decide) 0 rfl rfl rfl rfl hl rfl (Nat.le_of_ble_eq_true rfl) dX10_die_41 ⟨Nat.le_of_ble_eq_true rfl, Nat.le_of_ble_eq_true rfl⟩ (fun v w h => by rw [h.2]; rfl) (fun v w1 H locs hZ hP hD hS => ?_)
        obtain ⟨rfl, rfl⟩ := hZ
        have hP : va_P g vwCl ([moO ma (updZ M 0 2), arC (ma 1) (τ 0) 291 (flR R), arC (ma 4) (τ 0) 4074 (bkF B)]) H := hP
        have hD : va_D A ([moO ma (updZ M 0 2), arC (ma 1) (τ 0) 291 (flR R), arC (ma 4) (τ 0) 4074 (bkF B)]) := hD
        refine tl_some ?_
        refine cv_i (y := iI 1) (congrArg iI (if_neg (by decide))) ?_
        refine zi_if_eq (tgt := 49) hx hb ⟨by decide, by decide⟩ dX10_die_44 (by decide) (fun c_8 => ?_) (fun c_8 => ?_)
        · exact absurd c_8 (by decide)
        refine lv_iconst (v := iI 0) hx hb dX10_die_47 (by decide) ?_
        exact rw_iret hx hb hr hlocks hP hS (by first | (have ha : aDie R y1 q1 z1 = (-4, R) := (by unfold aDie; rw [if_neg (by unfold isY; omega), if_pos (by omega)]); exact ⟨(updZ M 0 2), by show M 9 = M 9; first | rfl | omega, Or.inl ⟨by rw [ha]; show (-4 : Int) < 0; decide, rfl, by rw [ha]; show 2 = _; rfl, by show M 5 = M 5; first | rfl | omega, rfl⟩⟩)) dX10_die_48
    · have cd_c_3 := of_decide_eq_false c_3
      refine lv_iconst (v := iI 1) hx hb dX10_die_21 (by decide) ?_
      refine lv_goto (tgt := 41) hx hb dX10_die_22 (by decide) ?_
      refine rw_V (As := [Value.int (iI 1)]) (rest := []) ⟨hx, hb, hml, hown, hts⟩ (c_X10_refused l g τ ma M 1 ⟨by decide, by decide⟩) gX10_die_X10_refused cd_X10_refused rfl rfl ⟨rfl, rfl⟩ ⟨Nat.le_of_ble_eq_true rfl, Nat.le_of_ble_eq_true rfl⟩ hK hP hD hS [0] (rfl) (by decide) 0 rfl rfl rfl rfl hl rfl (Nat.le_of_ble_eq_true rfl) dX10_die_41 ⟨Nat.le_of_ble_eq_true rfl, Nat.le_of_ble_eq_true rfl⟩ (fun v w h => by rw [h.2]; rfl) (fun v w1 H locs hZ hP hD hS => ?_)
      obtain ⟨rfl, rfl⟩ := hZ
      have hP : va_P g vwCl ([moO ma (updZ M 0 1), arC (ma 1) (τ 0) 291 (flR R), arC (ma 4) (τ 0) 4074 (bkF B)]) H := hP
      have hD : va_D A ([moO ma (updZ M 0 1), arC (ma 1) (τ 0) 291 (flR R), arC (ma 4) (τ 0) 4074 (bkF B)]) := hD
      refine tl_some ?_
      refine cv_i (y := iI 1) (congrArg iI (if_neg (by decide))) ?_
      refine zi_if_eq (tgt := 49) hx hb ⟨by decide, by decide⟩ dX10_die_44 (by decide) (fun c_9 => ?_) (fun c_9 => ?_)
      · exact absurd c_9 (by decide)
      refine lv_iconst (v := iI 0) hx hb dX10_die_47 (by decide) ?_
      exact rw_iret hx hb hr hlocks hP hS (by first | (have ha : aDie R y1 q1 z1 = (-3, R) := (by unfold aDie; rw [if_pos (by unfold isY; omega)]); exact ⟨(updZ M 0 1), by show M 9 = M 9; first | rfl | omega, Or.inl ⟨by rw [ha]; show (-3 : Int) < 0; decide, rfl, by rw [ha]; show 1 = _; rfl, by show M 5 = M 5; first | rfl | omega, rfl⟩⟩)) dX10_die_48

theorem cd_X10_crack : cd yX10_crack 2 := by decide +kernel
theorem in_X10_crack_X10 : ∀ w ∈ wsX100, w ∈ wsX10_crack := by decide +kernel
set_option maxHeartbeats 2000000 in
set_option maxRecDepth 100000 in
theorem c_X10_crack (l : Launch) (g : va_G) (τ : Nat → ClassId) (ma : Nat → Nat) (M : Nat → Int) (R : Nat → Nat → Int) (hI : SI R) (z1 : Int) (rz1 : -2147483648 ≤ z1 ∧ z1 < 2147483648) (y1 : Int) (ry1 : -2147483648 ≤ y1 ∧ y1 < 2147483648) (B : Nat → Nat → Nat → Int) (hn5 : 0 ≤ M 5 ∧ M 5 ≤ 14)  : Met l yX10_crack wsX10_crack { frames := 2, cells := 0, slots := 0, locals := 46 } (va_Pc [Value.ref (ma 0), Value.int (iI z1), Value.int (iI y1)] (rwW g τ ([moO ma M, arC (ma 1) (τ 0) 291 (flR R), arC (ma 4) (τ 0) 4074 (bkF B)]))) (rwQ g (fun v w => ∃ M2 : Nat → Int, M2 9 = M 9 ∧ (((aCrack R z1 y1).1 < 0 ∧ v = some (Value.int (iI 0)) ∧ M2 0 = cd3 (aCrack R z1 y1).1 1 2 3 ∧ M2 5 = M 5 ∧ w = [moO ma M2, arC (ma 1) (τ 0) 291 (flR R), arC (ma 4) (τ 0) 4074 (bkF B)]) ∨ (0 ≤ (aCrack R z1 y1).1 ∧ v = some (Value.int (iI (aCrack R z1 y1).1)) ∧ M2 0 = 0 ∧ M2 5 = (rmB (M 5) B R).1 ∧ w = [moO ma M2, arC (ma 1) (τ 0) 291 (flR (aCrack R z1 y1).2), arC (ma 4) (τ 0) 4074 (bkF (rmB (M 5) B R).2)]))) (inW ([moO ma M, arC (ma 1) (τ 0) 291 (flR R), arC (ma 4) (τ 0) 4074 (bkF B)]))) 0 0 (inW ([moO ma M, arC (ma 1) (τ 0) 291 (flR R), arC (ma 4) (τ 0) 4074 (bkF B)])) := by
  have hB := hI.hB
  have hr0 := hI.r
  have hd0 := hI.d
  have hs0 := hI.s
  refine rwMet (cc := cX10_crack) (maxL := 3) (ret := (some .int)) (lv := [(0, Value.ref (ma 0)), (1, Value.int (iI z1)), (2, Value.int (iI y1))]) (by decide) rfl (Nat.le_of_ble_eq_true rfl) rfl ?_
  intro p e s m below meth c hx hb hr hml hts hown hlocks A H hP hD hS hK ls hl
  refine lv_aload_n hx hb dX10_crack_0 rfl (lv_at hl 0 rfl) ?_
  refine lv_aload_n hx hb dX10_crack_1 rfl (lv_at hl 0 rfl) ?_
  refine va_get (D := g) (ci := 10) (v := Value.ref (ma 1)) (C := RX10) (T := TX10) (N := 18) hx hb hts in_X10_crack_X10 hown hK.1 hP 0 (rfl) rfl 1 (by decide) (hts _ (List.mem_of_getElem? (i := 1) rfl) : (Cond.fieldLink RX10 7 "CordSealsModel" "now" "[I").before _ s = true) (fun _ h9 => h9) rfl dX10_crack_2 ?_
  refine lv_iload_n hx hb dX10_crack_5 rfl (lv_at hl 1 rfl) ?_
  refine ro_S (As := [Value.ref (ma 1), Value.int (iI z1)]) (rest := [Value.ref (ma 0)]) (v := some (Value.int (iI (zB (decide (0 ≤ z1 ∧ z1 ≤ R 4 0 - 1)))))) ⟨hx, hb, hml, hown, hts⟩ (c_X10_hasDie l g τ (ma 1) R hI z1 ⟨by omega, by omega⟩) gX10_crack_X10_hasDie cd_X10_hasDie rfl ⟨rfl, rfl⟩ ⟨Nat.le_of_ble_eq_true rfl, Nat.le_of_ble_eq_true rfl⟩ hK (cut_P (is := [1]) hP rfl) rfl hl rfl (Nat.le_of_ble_eq_true rfl) dX10_crack_6 ⟨Nat.le_of_ble_eq_true rfl, Nat.le_of_ble_eq_true rfl⟩ ?_
  refine tl_some ?_
  refine zb_if_ne (tgt := 16) hx hb dX10_crack_9 (by decide) (fun c_1 => ?_) (fun c_1 => ?_)
  · have cd_c_1 := of_decide_eq_true c_1
    refine lv_iload_n hx hb dX10_crack_16 rfl (lv_at hl 2 rfl) ?_
    refine ro_S (As := [Value.int (iI y1)]) (rest := [Value.ref (ma 0)]) (v := some (Value.int (iI (zB (decide (1000 ≤ y1 ∧ y1 ≤ 1999)))))) ⟨hx, hb, hml, hown, hts⟩ (c_X10_isYear l g τ y1 ⟨by omega, by omega⟩) gX10_crack_X10_isYear cd_X10_isYear rfl ⟨rfl, rfl⟩ ⟨Nat.le_of_ble_eq_true rfl, Nat.le_of_ble_eq_true rfl⟩ hK (fun _ _ h => by cases h) rfl hl rfl (Nat.le_of_ble_eq_true rfl) dX10_crack_17 ⟨Nat.le_of_ble_eq_true rfl, Nat.le_of_ble_eq_true rfl⟩ ?_
    refine tl_some ?_
    refine zb_if_ne (tgt := 27) hx hb dX10_crack_20 (by decide) (fun c_2 => ?_) (fun c_2 => ?_)
    · have cd_c_2 := of_decide_eq_true c_2
      obtain ⟨d1, rfl⟩ := Int.eq_ofNat_of_zero_le (show 0 ≤ z1 by omega)
      have hdl := hI.ds d1 (by omega)
      refine lv_aload_n hx hb dX10_crack_27 rfl (lv_at hl 0 rfl) ?_
      refine va_get (D := g) (ci := 10) (v := Value.ref (ma 1)) (C := RX10) (T := TX10) (N := 18) hx hb hts in_X10_crack_X10 hown hK.1 hP 0 (rfl) rfl 1 (by decide) (hts _ (List.mem_of_getElem? (i := 1) rfl) : (Cond.fieldLink RX10 7 "CordSealsModel" "now" "[I").before _ s = true) (fun _ h9 => h9) rfl dX10_crack_28 ?_
      refine lv_iload_n hx hb dX10_crack_31 rfl (lv_at hl 1 rfl) ?_
      refine lv_iload_n hx hb dX10_crack_32 rfl (lv_at hl 2 rfl) ?_
      refine ro_S (As := [Value.ref (ma 1), Value.int (iI (d1 : Int)), Value.int (iI y1)]) (rest := [Value.ref (ma 0)]) (v := some (Value.int (iI (zB (decide (R 8 d1 < 4) && !dIn R d1 (R 8 d1).toNat y1))))) ⟨hx, hb, hml, hown, hts⟩ (e_X10_canCrack l g τ (ma 1) R hI d1 (by omega) y1 ⟨by omega, by omega⟩) gX10_crack_X10_canCrack cd_X10_canCrack rfl ⟨rfl, rfl⟩ ⟨Nat.le_of_ble_eq_true rfl, Nat.le_of_ble_eq_true rfl⟩ hK (cut_P (is := [1]) hP rfl) rfl hl rfl (Nat.le_of_ble_eq_true rfl) dX10_crack_33 ⟨Nat.le_of_ble_eq_true rfl, Nat.le_of_ble_eq_true rfl⟩ ?_
      refine tl_some ?_
      refine zb_if_ne (tgt := 43) hx hb dX10_crack_36 (by decide) (fun c_3 => ?_) (fun c_3 => ?_)
      · have _ := c_3
        have hcc := cP_t c_3
        refine lv_iconst (v := iI 0) hx hb dX10_crack_43 (by decide) ?_
        refine rw_V (As := [Value.int (iI 0)]) (rest := []) ⟨hx, hb, hml, hown, hts⟩ (c_X10_refused l g τ ma M 0 ⟨by decide, by decide⟩) gX10_crack_X10_refused cd_X10_refused rfl rfl ⟨rfl, rfl⟩ ⟨Nat.le_of_ble_eq_true rfl, Nat.le_of_ble_eq_true rfl⟩ hK hP hD hS [0] (rfl) (by decide) 0 rfl rfl rfl rfl hl rfl (Nat.le_of_ble_eq_true rfl) dX10_crack_44 ⟨Nat.le_of_ble_eq_true rfl, Nat.le_of_ble_eq_true rfl⟩ (fun v w h => by rw [h.2]; rfl) (fun v w1 H locs hZ hP hD hS => ?_)
        obtain ⟨rfl, rfl⟩ := hZ
        have hP : va_P g vwCl ([moO ma (updZ M 0 0), arC (ma 1) (τ 0) 291 (flR R), arC (ma 4) (τ 0) 4074 (bkF B)]) H := hP
        have hD : va_D A ([moO ma (updZ M 0 0), arC (ma 1) (τ 0) 291 (flR R), arC (ma 4) (τ 0) 4074 (bkF B)]) := hD
        refine tl_some ?_
        refine cv_i (y := iI 0) (congrArg iI (if_pos rfl)) ?_
        refine zi_if_eq (tgt := 52) hx hb ⟨by decide, by decide⟩ dX10_crack_47 (by decide) (fun c_4 => ?_) (fun c_4 => ?_)
        · skip
          refine lv_aload_n hx hb dX10_crack_52 rfl (lv_at hl 0 rfl) ?_
          refine rw_V (As := []) (rest := []) ⟨hx, hb, hml, hown, hts⟩ (c_X10_remember l g τ ma (updZ M 0 0) R hI B (by show 0 ≤ M 5 ∧ M 5 ≤ 14; omega)) gX10_crack_X10_remember cd_X10_remember rfl rfl ⟨rfl, rfl⟩ ⟨Nat.le_of_ble_eq_true rfl, Nat.le_of_ble_eq_true rfl⟩ hK hP hD hS [0, 1, 2] (rfl) (by decide) 0 rfl rfl rfl rfl hl rfl (Nat.le_of_ble_eq_true rfl) dX10_crack_53 ⟨Nat.le_of_ble_eq_true rfl, Nat.le_of_ble_eq_true rfl⟩ (fun v w h => by obtain ⟨-, M9, -, -, -, rfl⟩ := h; rfl) (fun v w1 H locs hZ hP hD hS => ?_)
          obtain ⟨rfl, M_5, hfM_5_0, hfM_5_5, hfM_5_9, rfl⟩ := hZ
          have hP : va_P g vwCl ([moO ma M_5, arC (ma 1) (τ 0) 291 (flR R), arC (ma 4) (τ 0) 4074 (bkF (rmB (M 5) B R).2)]) H := hP
          have hD : va_D A ([moO ma M_5, arC (ma 1) (τ 0) 291 (flR R), arC (ma 4) (τ 0) 4074 (bkF (rmB (M 5) B R).2)]) := hD
          have hfM_5_0 : M_5 0 = 0 := hfM_5_0
          have hfM_5_5 : M_5 5 = (rmB (M 5) B R).1 := hfM_5_5
          have hfM_5_9 : M_5 9 = M 9 := hfM_5_9
          refine tl_none ?_
          refine lv_aload_n hx hb dX10_crack_56 rfl (lv_at hl 0 rfl) ?_
          refine va_get (D := g) (ci := 10) (v := Value.ref (ma 1)) (C := RX10) (T := TX10) (N := 18) hx hb hts in_X10_crack_X10 hown hK.1 hP 0 (rfl) rfl 1 (by decide) (hts _ (List.mem_of_getElem? (i := 1) rfl) : (Cond.fieldLink RX10 7 "CordSealsModel" "now" "[I").before _ s = true) (fun _ h9 => h9) rfl dX10_crack_57 ?_
          refine lv_iload_n hx hb dX10_crack_60 rfl (lv_at hl 1 rfl) ?_
          refine lv_iload_n hx hb dX10_crack_61 rfl (lv_at hl 2 rfl) ?_
          refine rw_S (As := [Value.ref (ma 1), Value.int (iI (d1 : Int)), Value.int (iI y1)]) (rest := []) ⟨hx, hb, hml, hown, hts⟩ (c_X10_goCrack l g τ (ma 1) R hI d1 (by omega) y1 ⟨by omega, by omega⟩ (by omega)) gX10_crack_X10_goCrack cd_X10_goCrack rfl ⟨rfl, rfl⟩ ⟨Nat.le_of_ble_eq_true rfl, Nat.le_of_ble_eq_true rfl⟩ hK hP hD hS [1] (rfl) (by decide) rfl hl rfl (Nat.le_of_ble_eq_true rfl) dX10_crack_62 ⟨Nat.le_of_ble_eq_true rfl, Nat.le_of_ble_eq_true rfl⟩ (fun v w h => by rw [h.2]; exact f_fl _ _ _ _) (fun v w1 H locs hZ hP hD hS => ?_)
          obtain ⟨rfl, rfl⟩ := hZ
          have hP : va_P g vwCl ([moO ma M_5, arC (ma 1) (τ 0) 291 (flR (u2 (u2 R 9 (updZ (R 9) (d1 * 4 + (R 8 d1).toNat) y1)) 8 (updZ (R 8) d1 (R 8 d1 + 1)))), arC (ma 4) (τ 0) 4074 (bkF (rmB (M 5) B R).2)]) H := hP
          have hD : va_D A ([moO ma M_5, arC (ma 1) (τ 0) 291 (flR (u2 (u2 R 9 (updZ (R 9) (d1 * 4 + (R 8 d1).toNat) y1)) 8 (updZ (R 8) d1 (R 8 d1 + 1)))), arC (ma 4) (τ 0) 4074 (bkF (rmB (M 5) B R).2)]) := hD
          refine tl_some ?_
          exact rw_iret hx hb hr hlocks hP hS (by first | (have ha : aCrack R (d1 : Int) y1 = (R 8 d1, u2 (u2 R 9 (updZ (R 9) (d1 * 4 + (R 8 d1).toNat) y1)) 8 (updZ (R 8) d1 (R 8 d1 + 1))) := (by unfold aCrack; rw [if_neg (by omega), if_neg (by unfold isY; omega)]; try simp only [Int.toNat_natCast]; rw [if_neg hcc]); exact ⟨M_5, by show M_5 9 = M 9; first | rfl | omega, Or.inr ⟨by rw [ha]; show (0 : Int) ≤ R 8 d1; omega, by rw [ha], by show M_5 0 = 0; first | rfl | omega, by show M_5 5 = _; first | rfl | omega, by rw [ha]⟩⟩)) dX10_crack_65
        · exact absurd c_4 (by decide)
      · have _ := c_3
        have hcc := cP_f c_3
        refine lv_iconst (v := iI 3) hx hb dX10_crack_39 (by decide) ?_
        refine lv_goto (tgt := 44) hx hb dX10_crack_40 (by decide) ?_
        refine rw_V (As := [Value.int (iI 3)]) (rest := []) ⟨hx, hb, hml, hown, hts⟩ (c_X10_refused l g τ ma M 3 ⟨by decide, by decide⟩) gX10_crack_X10_refused cd_X10_refused rfl rfl ⟨rfl, rfl⟩ ⟨Nat.le_of_ble_eq_true rfl, Nat.le_of_ble_eq_true rfl⟩ hK hP hD hS [0] (rfl) (by decide) 0 rfl rfl rfl rfl hl rfl (Nat.le_of_ble_eq_true rfl) dX10_crack_44 ⟨Nat.le_of_ble_eq_true rfl, Nat.le_of_ble_eq_true rfl⟩ (fun v w h => by rw [h.2]; rfl) (fun v w1 H locs hZ hP hD hS => ?_)
        obtain ⟨rfl, rfl⟩ := hZ
        have hP : va_P g vwCl ([moO ma (updZ M 0 3), arC (ma 1) (τ 0) 291 (flR R), arC (ma 4) (τ 0) 4074 (bkF B)]) H := hP
        have hD : va_D A ([moO ma (updZ M 0 3), arC (ma 1) (τ 0) 291 (flR R), arC (ma 4) (τ 0) 4074 (bkF B)]) := hD
        refine tl_some ?_
        refine cv_i (y := iI 1) (congrArg iI (if_neg (by decide))) ?_
        refine zi_if_eq (tgt := 52) hx hb ⟨by decide, by decide⟩ dX10_crack_47 (by decide) (fun c_6 => ?_) (fun c_6 => ?_)
        · exact absurd c_6 (by decide)
        refine lv_iconst (v := iI 0) hx hb dX10_crack_50 (by decide) ?_
        exact rw_iret hx hb hr hlocks hP hS (by first | (have ha : aCrack R (d1 : Int) y1 = (-4, R) := (by unfold aCrack; rw [if_neg (by omega), if_neg (by unfold isY; omega)]; try simp only [Int.toNat_natCast]; rw [if_pos hcc]); exact ⟨(updZ M 0 3), by show M 9 = M 9; first | rfl | omega, Or.inl ⟨by rw [ha]; show (-4 : Int) < 0; decide, rfl, by rw [ha]; show 3 = _; rfl, by show M 5 = M 5; first | rfl | omega, rfl⟩⟩)) dX10_crack_51
    · have cd_c_2 := of_decide_eq_false c_2
      refine lv_iconst (v := iI 2) hx hb dX10_crack_23 (by decide) ?_
      refine lv_goto (tgt := 44) hx hb dX10_crack_24 (by decide) ?_
      refine rw_V (As := [Value.int (iI 2)]) (rest := []) ⟨hx, hb, hml, hown, hts⟩ (c_X10_refused l g τ ma M 2 ⟨by decide, by decide⟩) gX10_crack_X10_refused cd_X10_refused rfl rfl ⟨rfl, rfl⟩ ⟨Nat.le_of_ble_eq_true rfl, Nat.le_of_ble_eq_true rfl⟩ hK hP hD hS [0] (rfl) (by decide) 0 rfl rfl rfl rfl hl rfl (Nat.le_of_ble_eq_true rfl) dX10_crack_44 ⟨Nat.le_of_ble_eq_true rfl, Nat.le_of_ble_eq_true rfl⟩ (fun v w h => by rw [h.2]; rfl) (fun v w1 H locs hZ hP hD hS => ?_)
      obtain ⟨rfl, rfl⟩ := hZ
      have hP : va_P g vwCl ([moO ma (updZ M 0 2), arC (ma 1) (τ 0) 291 (flR R), arC (ma 4) (τ 0) 4074 (bkF B)]) H := hP
      have hD : va_D A ([moO ma (updZ M 0 2), arC (ma 1) (τ 0) 291 (flR R), arC (ma 4) (τ 0) 4074 (bkF B)]) := hD
      refine tl_some ?_
      refine cv_i (y := iI 1) (congrArg iI (if_neg (by decide))) ?_
      refine zi_if_eq (tgt := 52) hx hb ⟨by decide, by decide⟩ dX10_crack_47 (by decide) (fun c_7 => ?_) (fun c_7 => ?_)
      · exact absurd c_7 (by decide)
      refine lv_iconst (v := iI 0) hx hb dX10_crack_50 (by decide) ?_
      exact rw_iret hx hb hr hlocks hP hS (by first | (have ha : aCrack R z1 y1 = (-3, R) := (by unfold aCrack; rw [if_neg (by omega), if_pos (by unfold isY; omega)]); exact ⟨(updZ M 0 2), by show M 9 = M 9; first | rfl | omega, Or.inl ⟨by rw [ha]; show (-3 : Int) < 0; decide, rfl, by rw [ha]; show 2 = _; rfl, by show M 5 = M 5; first | rfl | omega, rfl⟩⟩)) dX10_crack_51
  · have cd_c_1 := of_decide_eq_false c_1
    refine lv_iconst (v := iI 1) hx hb dX10_crack_12 (by decide) ?_
    refine lv_goto (tgt := 44) hx hb dX10_crack_13 (by decide) ?_
    refine rw_V (As := [Value.int (iI 1)]) (rest := []) ⟨hx, hb, hml, hown, hts⟩ (c_X10_refused l g τ ma M 1 ⟨by decide, by decide⟩) gX10_crack_X10_refused cd_X10_refused rfl rfl ⟨rfl, rfl⟩ ⟨Nat.le_of_ble_eq_true rfl, Nat.le_of_ble_eq_true rfl⟩ hK hP hD hS [0] (rfl) (by decide) 0 rfl rfl rfl rfl hl rfl (Nat.le_of_ble_eq_true rfl) dX10_crack_44 ⟨Nat.le_of_ble_eq_true rfl, Nat.le_of_ble_eq_true rfl⟩ (fun v w h => by rw [h.2]; rfl) (fun v w1 H locs hZ hP hD hS => ?_)
    obtain ⟨rfl, rfl⟩ := hZ
    have hP : va_P g vwCl ([moO ma (updZ M 0 1), arC (ma 1) (τ 0) 291 (flR R), arC (ma 4) (τ 0) 4074 (bkF B)]) H := hP
    have hD : va_D A ([moO ma (updZ M 0 1), arC (ma 1) (τ 0) 291 (flR R), arC (ma 4) (τ 0) 4074 (bkF B)]) := hD
    refine tl_some ?_
    refine cv_i (y := iI 1) (congrArg iI (if_neg (by decide))) ?_
    refine zi_if_eq (tgt := 52) hx hb ⟨by decide, by decide⟩ dX10_crack_47 (by decide) (fun c_8 => ?_) (fun c_8 => ?_)
    · exact absurd c_8 (by decide)
    refine lv_iconst (v := iI 0) hx hb dX10_crack_50 (by decide) ?_
    exact rw_iret hx hb hr hlocks hP hS (by first | (have ha : aCrack R z1 y1 = (-2, R) := (by unfold aCrack; rw [if_pos (by omega)]); exact ⟨(updZ M 0 1), by show M 9 = M 9; first | rfl | omega, Or.inl ⟨by rw [ha]; show (-2 : Int) < 0; decide, rfl, by rw [ha]; show 1 = _; rfl, by show M 5 = M 5; first | rfl | omega, rfl⟩⟩)) dX10_crack_51

theorem cd_X10_seal : cd yX10_seal 5 := by decide +kernel
theorem in_X10_seal_X10 : ∀ w ∈ wsX100, w ∈ wsX10_seal := by decide +kernel
set_option maxHeartbeats 2000000 in
set_option maxRecDepth 100000 in
theorem c_X10_seal (l : Launch) (g : va_G) (τ : Nat → ClassId) (ma : Nat → Nat) (M : Nat → Int) (R : Nat → Nat → Int) (hI : SI R) (z1 : Int) (rz1 : -2147483648 ≤ z1 ∧ z1 < 2147483648) (a1 : Int) (ra1 : -2147483648 ≤ a1 ∧ a1 < 2147483648) (q1 : Int) (rq1 : -2147483648 ≤ q1 ∧ q1 < 2147483648) (b1 : Int) (rb1 : -2147483648 ≤ b1 ∧ b1 < 2147483648) (x1 : Int) (rx1 : -2147483648 ≤ x1 ∧ x1 < 2147483648) (B : Nat → Nat → Nat → Int) (hn5 : 0 ≤ M 5 ∧ M 5 ≤ 14)  : Met l yX10_seal wsX10_seal { frames := 2, cells := 0, slots := 0, locals := 47 } (va_Pc [Value.ref (ma 0), Value.int (iI z1), Value.int (iI a1), Value.int (iI q1), Value.int (iI b1), Value.int (iI x1)] (rwW g τ ([moO ma M, arC (ma 1) (τ 0) 291 (flR R), arC (ma 4) (τ 0) 4074 (bkF B)]))) (rwQ g (fun v w => ∃ M2 : Nat → Int, M2 9 = M 9 ∧ (((aSeal R z1 a1 q1 b1 x1).1 < 0 ∧ v = some (Value.int (iI 0)) ∧ M2 0 = cd3 (aSeal R z1 a1 q1 b1 x1).1 1 2 3 ∧ M2 5 = M 5 ∧ w = [moO ma M2, arC (ma 1) (τ 0) 291 (flR R), arC (ma 4) (τ 0) 4074 (bkF B)]) ∨ (0 ≤ (aSeal R z1 a1 q1 b1 x1).1 ∧ v = some (Value.int (iI (aSeal R z1 a1 q1 b1 x1).1)) ∧ M2 0 = 0 ∧ M2 5 = (rmB (M 5) B R).1 ∧ w = [moO ma M2, arC (ma 1) (τ 0) 291 (flR (aSeal R z1 a1 q1 b1 x1).2), arC (ma 4) (τ 0) 4074 (bkF (rmB (M 5) B R).2)]))) (inW ([moO ma M, arC (ma 1) (τ 0) 291 (flR R), arC (ma 4) (τ 0) 4074 (bkF B)]))) 0 0 (inW ([moO ma M, arC (ma 1) (τ 0) 291 (flR R), arC (ma 4) (τ 0) 4074 (bkF B)])) := by
  have hB := hI.hB
  have hr0 := hI.r
  have hd0 := hI.d
  have hs0 := hI.s
  refine rwMet (cc := cX10_seal) (maxL := 6) (ret := (some .int)) (lv := [(0, Value.ref (ma 0)), (1, Value.int (iI z1)), (2, Value.int (iI a1)), (3, Value.int (iI q1)), (4, Value.int (iI b1)), (5, Value.int (iI x1))]) (by decide) rfl (Nat.le_of_ble_eq_true rfl) rfl ?_
  intro p e s m below meth c hx hb hr hml hts hown hlocks A H hP hD hS hK ls hl
  refine lv_aload_n hx hb dX10_seal_0 rfl (lv_at hl 0 rfl) ?_
  refine lv_aload_n hx hb dX10_seal_1 rfl (lv_at hl 0 rfl) ?_
  refine va_get (D := g) (ci := 10) (v := Value.ref (ma 1)) (C := RX10) (T := TX10) (N := 18) hx hb hts in_X10_seal_X10 hown hK.1 hP 0 (rfl) rfl 1 (by decide) (hts _ (List.mem_of_getElem? (i := 1) rfl) : (Cond.fieldLink RX10 7 "CordSealsModel" "now" "[I").before _ s = true) (fun _ h9 => h9) rfl dX10_seal_2 ?_
  refine lv_iload_n hx hb dX10_seal_5 rfl (lv_at hl 1 rfl) ?_
  refine ro_S (As := [Value.ref (ma 1), Value.int (iI z1)]) (rest := [Value.ref (ma 0)]) (v := some (Value.int (iI (zB (decide (0 ≤ z1 ∧ z1 ≤ R 4 0 - 1)))))) ⟨hx, hb, hml, hown, hts⟩ (c_X10_hasDie l g τ (ma 1) R hI z1 ⟨by omega, by omega⟩) gX10_seal_X10_hasDie cd_X10_hasDie rfl ⟨rfl, rfl⟩ ⟨Nat.le_of_ble_eq_true rfl, Nat.le_of_ble_eq_true rfl⟩ hK (cut_P (is := [1]) hP rfl) rfl hl rfl (Nat.le_of_ble_eq_true rfl) dX10_seal_6 ⟨Nat.le_of_ble_eq_true rfl, Nat.le_of_ble_eq_true rfl⟩ ?_
  refine tl_some ?_
  refine zb_if_ne (tgt := 16) hx hb dX10_seal_9 (by decide) (fun c_1 => ?_) (fun c_1 => ?_)
  · have cd_c_1 := of_decide_eq_true c_1
    obtain ⟨d1, rfl⟩ := Int.eq_ofNat_of_zero_le (show 0 ≤ z1 by omega)
    have hdl := hI.ds d1 (by omega)
    have hpw := pow_r (m := (R 8 d1).toNat) (by omega)
    refine lv_iload_n hx hb dX10_seal_16 rfl (lv_at hl 2 rfl) ?_
    refine lv_iload_n hx hb dX10_seal_17 rfl (lv_at hl 3 rfl) ?_
    refine lv_iload hx hb dX10_seal_18 (lv_at hl 4 rfl) ?_
    refine ro_S (As := [Value.int (iI a1), Value.int (iI q1), Value.int (iI b1)]) (rest := [Value.ref (ma 0)]) (v := some (Value.int (iI (zB (decide ((0 ≤ a1 ∧ a1 ≤ 1) ∧ (-1 ≤ q1 ∧ q1 ≤ 7) ∧ (0 ≤ b1 ∧ b1 ≤ 99))))))) ⟨hx, hb, hml, hown, hts⟩ (c_X10_isKind l g τ a1 ⟨by omega, by omega⟩ q1 ⟨by omega, by omega⟩ b1 ⟨by omega, by omega⟩) gX10_seal_X10_isKind cd_X10_isKind rfl ⟨rfl, rfl⟩ ⟨Nat.le_of_ble_eq_true rfl, Nat.le_of_ble_eq_true rfl⟩ hK (fun _ _ h => by cases h) rfl hl rfl (Nat.le_of_ble_eq_true rfl) dX10_seal_20 ⟨Nat.le_of_ble_eq_true rfl, Nat.le_of_ble_eq_true rfl⟩ ?_
    refine tl_some ?_
    refine zb_if_eq (tgt := 39) hx hb dX10_seal_23 (by decide) (fun c_2 => ?_) (fun c_2 => ?_)
    · have cd_c_2 := of_decide_eq_false c_2
      refine lv_iconst (v := iI 2) hx hb dX10_seal_39 (by decide) ?_
      refine lv_goto (tgt := 59) hx hb dX10_seal_40 (by decide) ?_
      refine rw_V (As := [Value.int (iI 2)]) (rest := []) ⟨hx, hb, hml, hown, hts⟩ (c_X10_refused l g τ ma M 2 ⟨by decide, by decide⟩) gX10_seal_X10_refused cd_X10_refused rfl rfl ⟨rfl, rfl⟩ ⟨Nat.le_of_ble_eq_true rfl, Nat.le_of_ble_eq_true rfl⟩ hK hP hD hS [0] (rfl) (by decide) 0 rfl rfl rfl rfl hl rfl (Nat.le_of_ble_eq_true rfl) dX10_seal_59 ⟨Nat.le_of_ble_eq_true rfl, Nat.le_of_ble_eq_true rfl⟩ (fun v w h => by rw [h.2]; rfl) (fun v w1 H locs hZ hP hD hS => ?_)
      obtain ⟨rfl, rfl⟩ := hZ
      have hP : va_P g vwCl ([moO ma (updZ M 0 2), arC (ma 1) (τ 0) 291 (flR R), arC (ma 4) (τ 0) 4074 (bkF B)]) H := hP
      have hD : va_D A ([moO ma (updZ M 0 2), arC (ma 1) (τ 0) 291 (flR R), arC (ma 4) (τ 0) 4074 (bkF B)]) := hD
      refine tl_some ?_
      refine cv_i (y := iI 1) (congrArg iI (if_neg (by decide))) ?_
      refine zi_if_eq (tgt := 67) hx hb ⟨by decide, by decide⟩ dX10_seal_62 (by decide) (fun c_3 => ?_) (fun c_3 => ?_)
      · exact absurd c_3 (by decide)
      refine lv_iconst (v := iI 0) hx hb dX10_seal_65 (by decide) ?_
      exact rw_iret hx hb hr hlocks hP hS (by first | (have ha : aSeal R (d1 : Int) a1 q1 b1 x1 = (-3, R) := (by unfold aSeal; rw [if_neg (by omega)]; try simp only [Int.toNat_natCast]; rw [if_pos (by omega)]); exact ⟨(updZ M 0 2), by show M 9 = M 9; first | rfl | omega, Or.inl ⟨by rw [ha]; show (-3 : Int) < 0; decide, rfl, by rw [ha]; show 2 = _; rfl, by show M 5 = M 5; first | rfl | omega, rfl⟩⟩)) dX10_seal_66
    · have cd_c_2 := of_decide_eq_true c_2
      refine lv_aload_n hx hb dX10_seal_26 rfl (lv_at hl 0 rfl) ?_
      refine va_get (D := g) (ci := 10) (v := Value.ref (ma 1)) (C := RX10) (T := TX10) (N := 18) hx hb hts in_X10_seal_X10 hown hK.1 hP 0 (rfl) rfl 1 (by decide) (hts _ (List.mem_of_getElem? (i := 1) rfl) : (Cond.fieldLink RX10 7 "CordSealsModel" "now" "[I").before _ s = true) (fun _ h9 => h9) rfl dX10_seal_27 ?_
      refine lv_iload_n hx hb dX10_seal_30 rfl (lv_at hl 1 rfl) ?_
      refine lv_iload hx hb dX10_seal_31 (lv_at hl 5 rfl) ?_
      refine ro_S (As := [Value.ref (ma 1), Value.int (iI (d1 : Int)), Value.int (iI x1)]) (rest := [Value.ref (ma 0)]) (v := some (Value.int (iI (zB (decide (0 ≤ x1 ∧ x1 ≤ (2 : Int) ^ (R 8 d1).toNat - 1)))))) ⟨hx, hb, hml, hown, hts⟩ (c_X10_areCracks l g τ (ma 1) R hI d1 (by omega) x1 ⟨by omega, by omega⟩) gX10_seal_X10_areCracks cd_X10_areCracks rfl ⟨rfl, rfl⟩ ⟨Nat.le_of_ble_eq_true rfl, Nat.le_of_ble_eq_true rfl⟩ hK (cut_P (is := [1]) hP rfl) rfl hl rfl (Nat.le_of_ble_eq_true rfl) dX10_seal_33 ⟨Nat.le_of_ble_eq_true rfl, Nat.le_of_ble_eq_true rfl⟩ ?_
      refine tl_some ?_
      refine zb_if_ne (tgt := 43) hx hb dX10_seal_36 (by decide) (fun c_4 => ?_) (fun c_4 => ?_)
      · have cd_c_4 := of_decide_eq_true c_4
        refine lv_aload_n hx hb dX10_seal_43 rfl (lv_at hl 0 rfl) ?_
        refine va_get (D := g) (ci := 10) (v := Value.ref (ma 1)) (C := RX10) (T := TX10) (N := 18) hx hb hts in_X10_seal_X10 hown hK.1 hP 0 (rfl) rfl 1 (by decide) (hts _ (List.mem_of_getElem? (i := 1) rfl) : (Cond.fieldLink RX10 7 "CordSealsModel" "now" "[I").before _ s = true) (fun _ h9 => h9) rfl dX10_seal_44 ?_
        refine lv_iconst (v := iI 2) hx hb dX10_seal_47 (by decide) ?_
        refine zf_ald hx hb hK hP 1 (f := flR R) rfl (2) (rfl) (by omega) (by decide) (z := R 10 0) (fl_10) dX10_seal_48 ?_
        have hb_5 := hB 10 0
        refine lv_bipush (v := iI 24) hx hb dX10_seal_49 (by decide) ?_
        refine zi_icmp_ne (tgt := 58) hx hb ⟨by omega, by omega⟩ ⟨by decide, by decide⟩ dX10_seal_51 (by decide) (fun c_6 => ?_) (fun c_6 => ?_)
        · have _ := c_6
          refine lv_iconst (v := iI 0) hx hb dX10_seal_58 (by decide) ?_
          refine rw_V (As := [Value.int (iI 0)]) (rest := []) ⟨hx, hb, hml, hown, hts⟩ (c_X10_refused l g τ ma M 0 ⟨by decide, by decide⟩) gX10_seal_X10_refused cd_X10_refused rfl rfl ⟨rfl, rfl⟩ ⟨Nat.le_of_ble_eq_true rfl, Nat.le_of_ble_eq_true rfl⟩ hK hP hD hS [0] (rfl) (by decide) 0 rfl rfl rfl rfl hl rfl (Nat.le_of_ble_eq_true rfl) dX10_seal_59 ⟨Nat.le_of_ble_eq_true rfl, Nat.le_of_ble_eq_true rfl⟩ (fun v w h => by rw [h.2]; rfl) (fun v w1 H locs hZ hP hD hS => ?_)
          obtain ⟨rfl, rfl⟩ := hZ
          have hP : va_P g vwCl ([moO ma (updZ M 0 0), arC (ma 1) (τ 0) 291 (flR R), arC (ma 4) (τ 0) 4074 (bkF B)]) H := hP
          have hD : va_D A ([moO ma (updZ M 0 0), arC (ma 1) (τ 0) 291 (flR R), arC (ma 4) (τ 0) 4074 (bkF B)]) := hD
          refine tl_some ?_
          refine cv_i (y := iI 0) (congrArg iI (if_pos rfl)) ?_
          refine zi_if_eq (tgt := 67) hx hb ⟨by decide, by decide⟩ dX10_seal_62 (by decide) (fun c_7 => ?_) (fun c_7 => ?_)
          · skip
            refine lv_aload_n hx hb dX10_seal_67 rfl (lv_at hl 0 rfl) ?_
            refine rw_V (As := []) (rest := []) ⟨hx, hb, hml, hown, hts⟩ (c_X10_remember l g τ ma (updZ M 0 0) R hI B (by show 0 ≤ M 5 ∧ M 5 ≤ 14; omega)) gX10_seal_X10_remember cd_X10_remember rfl rfl ⟨rfl, rfl⟩ ⟨Nat.le_of_ble_eq_true rfl, Nat.le_of_ble_eq_true rfl⟩ hK hP hD hS [0, 1, 2] (rfl) (by decide) 0 rfl rfl rfl rfl hl rfl (Nat.le_of_ble_eq_true rfl) dX10_seal_68 ⟨Nat.le_of_ble_eq_true rfl, Nat.le_of_ble_eq_true rfl⟩ (fun v w h => by obtain ⟨-, M9, -, -, -, rfl⟩ := h; rfl) (fun v w1 H locs hZ hP hD hS => ?_)
            obtain ⟨rfl, M_8, hfM_8_0, hfM_8_5, hfM_8_9, rfl⟩ := hZ
            have hP : va_P g vwCl ([moO ma M_8, arC (ma 1) (τ 0) 291 (flR R), arC (ma 4) (τ 0) 4074 (bkF (rmB (M 5) B R).2)]) H := hP
            have hD : va_D A ([moO ma M_8, arC (ma 1) (τ 0) 291 (flR R), arC (ma 4) (τ 0) 4074 (bkF (rmB (M 5) B R).2)]) := hD
            have hfM_8_0 : M_8 0 = 0 := hfM_8_0
            have hfM_8_5 : M_8 5 = (rmB (M 5) B R).1 := hfM_8_5
            have hfM_8_9 : M_8 9 = M 9 := hfM_8_9
            refine tl_none ?_
            refine lv_aload_n hx hb dX10_seal_71 rfl (lv_at hl 0 rfl) ?_
            refine va_get (D := g) (ci := 10) (v := Value.ref (ma 1)) (C := RX10) (T := TX10) (N := 18) hx hb hts in_X10_seal_X10 hown hK.1 hP 0 (rfl) rfl 1 (by decide) (hts _ (List.mem_of_getElem? (i := 1) rfl) : (Cond.fieldLink RX10 7 "CordSealsModel" "now" "[I").before _ s = true) (fun _ h9 => h9) rfl dX10_seal_72 ?_
            refine lv_iload_n hx hb dX10_seal_75 rfl (lv_at hl 1 rfl) ?_
            refine lv_iload_n hx hb dX10_seal_76 rfl (lv_at hl 2 rfl) ?_
            refine lv_iload_n hx hb dX10_seal_77 rfl (lv_at hl 3 rfl) ?_
            refine lv_iload hx hb dX10_seal_78 (lv_at hl 4 rfl) ?_
            refine lv_iload hx hb dX10_seal_80 (lv_at hl 5 rfl) ?_
            refine rw_S (As := [Value.ref (ma 1), Value.int (iI (d1 : Int)), Value.int (iI a1), Value.int (iI q1), Value.int (iI b1), Value.int (iI x1)]) (rest := []) ⟨hx, hb, hml, hown, hts⟩ (c_X10_goSeal l g τ (ma 1) R hI (d1 : Int) ⟨by omega, by omega⟩ a1 ⟨by omega, by omega⟩ q1 ⟨by omega, by omega⟩ b1 ⟨by omega, by omega⟩ x1 ⟨by omega, by omega⟩ (by omega)) gX10_seal_X10_goSeal cd_X10_goSeal rfl ⟨rfl, rfl⟩ ⟨Nat.le_of_ble_eq_true rfl, Nat.le_of_ble_eq_true rfl⟩ hK hP hD hS [1] (rfl) (by decide) rfl hl rfl (Nat.le_of_ble_eq_true rfl) dX10_seal_82 ⟨Nat.le_of_ble_eq_true rfl, Nat.le_of_ble_eq_true rfl⟩ (fun v w h => by rw [h.2]; exact f_fl _ _ _ _) (fun v w1 H locs hZ hP hD hS => ?_)
            obtain ⟨rfl, rfl⟩ := hZ
            have hP : va_P g vwCl ([moO ma M_8, arC (ma 1) (τ 0) 291 (flR (u2 (u2 (u2 (u2 (u2 (u2 (u2 R 11 (updZ (R 11) (R 10 0).toNat (d1 : Int))) 12 (updZ (R 12) (R 10 0).toNat a1)) 13 (updZ (R 13) (R 10 0).toNat q1)) 14 (updZ (R 14) (R 10 0).toNat b1)) 15 (updZ (R 15) (R 10 0).toNat x1)) 16 (updZ (R 16) (R 10 0).toNat (-1))) 10 (fun _ => R 10 0 + 1))), arC (ma 4) (τ 0) 4074 (bkF (rmB (M 5) B R).2)]) H := hP
            have hD : va_D A ([moO ma M_8, arC (ma 1) (τ 0) 291 (flR (u2 (u2 (u2 (u2 (u2 (u2 (u2 R 11 (updZ (R 11) (R 10 0).toNat (d1 : Int))) 12 (updZ (R 12) (R 10 0).toNat a1)) 13 (updZ (R 13) (R 10 0).toNat q1)) 14 (updZ (R 14) (R 10 0).toNat b1)) 15 (updZ (R 15) (R 10 0).toNat x1)) 16 (updZ (R 16) (R 10 0).toNat (-1))) 10 (fun _ => R 10 0 + 1))), arC (ma 4) (τ 0) 4074 (bkF (rmB (M 5) B R).2)]) := hD
            refine tl_some ?_
            exact rw_iret hx hb hr hlocks hP hS (by first | (have ha : aSeal R (d1 : Int) a1 q1 b1 x1 = (R 10 0, u2 (u2 (u2 (u2 (u2 (u2 (u2 R 11 (updZ (R 11) (R 10 0).toNat (d1 : Int))) 12 (updZ (R 12) (R 10 0).toNat a1)) 13 (updZ (R 13) (R 10 0).toNat q1)) 14 (updZ (R 14) (R 10 0).toNat b1)) 15 (updZ (R 15) (R 10 0).toNat x1)) 16 (updZ (R 16) (R 10 0).toNat (-1))) 10 (fun _ => R 10 0 + 1)) := (by unfold aSeal; rw [if_neg (by omega)]; try simp only [Int.toNat_natCast]; rw [if_neg (by omega), if_neg (by omega)]); exact ⟨M_8, by show M_8 9 = M 9; first | rfl | omega, Or.inr ⟨by rw [ha]; show (0 : Int) ≤ R 10 0; omega, by rw [ha], by show M_8 0 = 0; first | rfl | omega, by show M_8 5 = _; first | rfl | omega, by rw [ha]⟩⟩)) dX10_seal_85
          · exact absurd c_7 (by decide)
        · have _ := c_6
          refine lv_iconst (v := iI 3) hx hb dX10_seal_54 (by decide) ?_
          refine lv_goto (tgt := 59) hx hb dX10_seal_55 (by decide) ?_
          refine rw_V (As := [Value.int (iI 3)]) (rest := []) ⟨hx, hb, hml, hown, hts⟩ (c_X10_refused l g τ ma M 3 ⟨by decide, by decide⟩) gX10_seal_X10_refused cd_X10_refused rfl rfl ⟨rfl, rfl⟩ ⟨Nat.le_of_ble_eq_true rfl, Nat.le_of_ble_eq_true rfl⟩ hK hP hD hS [0] (rfl) (by decide) 0 rfl rfl rfl rfl hl rfl (Nat.le_of_ble_eq_true rfl) dX10_seal_59 ⟨Nat.le_of_ble_eq_true rfl, Nat.le_of_ble_eq_true rfl⟩ (fun v w h => by rw [h.2]; rfl) (fun v w1 H locs hZ hP hD hS => ?_)
          obtain ⟨rfl, rfl⟩ := hZ
          have hP : va_P g vwCl ([moO ma (updZ M 0 3), arC (ma 1) (τ 0) 291 (flR R), arC (ma 4) (τ 0) 4074 (bkF B)]) H := hP
          have hD : va_D A ([moO ma (updZ M 0 3), arC (ma 1) (τ 0) 291 (flR R), arC (ma 4) (τ 0) 4074 (bkF B)]) := hD
          refine tl_some ?_
          refine cv_i (y := iI 1) (congrArg iI (if_neg (by decide))) ?_
          refine zi_if_eq (tgt := 67) hx hb ⟨by decide, by decide⟩ dX10_seal_62 (by decide) (fun c_9 => ?_) (fun c_9 => ?_)
          · exact absurd c_9 (by decide)
          refine lv_iconst (v := iI 0) hx hb dX10_seal_65 (by decide) ?_
          exact rw_iret hx hb hr hlocks hP hS (by first | (have ha : aSeal R (d1 : Int) a1 q1 b1 x1 = (-4, R) := (by unfold aSeal; rw [if_neg (by omega)]; try simp only [Int.toNat_natCast]; rw [if_neg (by omega), if_pos (by omega)]); exact ⟨(updZ M 0 3), by show M 9 = M 9; first | rfl | omega, Or.inl ⟨by rw [ha]; show (-4 : Int) < 0; decide, rfl, by rw [ha]; show 3 = _; rfl, by show M 5 = M 5; first | rfl | omega, rfl⟩⟩)) dX10_seal_66
      · have cd_c_4 := of_decide_eq_false c_4
        refine lv_iconst (v := iI 2) hx hb dX10_seal_39 (by decide) ?_
        refine lv_goto (tgt := 59) hx hb dX10_seal_40 (by decide) ?_
        refine rw_V (As := [Value.int (iI 2)]) (rest := []) ⟨hx, hb, hml, hown, hts⟩ (c_X10_refused l g τ ma M 2 ⟨by decide, by decide⟩) gX10_seal_X10_refused cd_X10_refused rfl rfl ⟨rfl, rfl⟩ ⟨Nat.le_of_ble_eq_true rfl, Nat.le_of_ble_eq_true rfl⟩ hK hP hD hS [0] (rfl) (by decide) 0 rfl rfl rfl rfl hl rfl (Nat.le_of_ble_eq_true rfl) dX10_seal_59 ⟨Nat.le_of_ble_eq_true rfl, Nat.le_of_ble_eq_true rfl⟩ (fun v w h => by rw [h.2]; rfl) (fun v w1 H locs hZ hP hD hS => ?_)
        obtain ⟨rfl, rfl⟩ := hZ
        have hP : va_P g vwCl ([moO ma (updZ M 0 2), arC (ma 1) (τ 0) 291 (flR R), arC (ma 4) (τ 0) 4074 (bkF B)]) H := hP
        have hD : va_D A ([moO ma (updZ M 0 2), arC (ma 1) (τ 0) 291 (flR R), arC (ma 4) (τ 0) 4074 (bkF B)]) := hD
        refine tl_some ?_
        refine cv_i (y := iI 1) (congrArg iI (if_neg (by decide))) ?_
        refine zi_if_eq (tgt := 67) hx hb ⟨by decide, by decide⟩ dX10_seal_62 (by decide) (fun c_10 => ?_) (fun c_10 => ?_)
        · exact absurd c_10 (by decide)
        refine lv_iconst (v := iI 0) hx hb dX10_seal_65 (by decide) ?_
        exact rw_iret hx hb hr hlocks hP hS (by first | (have ha : aSeal R (d1 : Int) a1 q1 b1 x1 = (-3, R) := (by unfold aSeal; rw [if_neg (by omega)]; try simp only [Int.toNat_natCast]; rw [if_pos (by omega)]); exact ⟨(updZ M 0 2), by show M 9 = M 9; first | rfl | omega, Or.inl ⟨by rw [ha]; show (-3 : Int) < 0; decide, rfl, by rw [ha]; show 2 = _; rfl, by show M 5 = M 5; first | rfl | omega, rfl⟩⟩)) dX10_seal_66
  · have cd_c_1 := of_decide_eq_false c_1
    refine lv_iconst (v := iI 1) hx hb dX10_seal_12 (by decide) ?_
    refine lv_goto (tgt := 59) hx hb dX10_seal_13 (by decide) ?_
    refine rw_V (As := [Value.int (iI 1)]) (rest := []) ⟨hx, hb, hml, hown, hts⟩ (c_X10_refused l g τ ma M 1 ⟨by decide, by decide⟩) gX10_seal_X10_refused cd_X10_refused rfl rfl ⟨rfl, rfl⟩ ⟨Nat.le_of_ble_eq_true rfl, Nat.le_of_ble_eq_true rfl⟩ hK hP hD hS [0] (rfl) (by decide) 0 rfl rfl rfl rfl hl rfl (Nat.le_of_ble_eq_true rfl) dX10_seal_59 ⟨Nat.le_of_ble_eq_true rfl, Nat.le_of_ble_eq_true rfl⟩ (fun v w h => by rw [h.2]; rfl) (fun v w1 H locs hZ hP hD hS => ?_)
    obtain ⟨rfl, rfl⟩ := hZ
    have hP : va_P g vwCl ([moO ma (updZ M 0 1), arC (ma 1) (τ 0) 291 (flR R), arC (ma 4) (τ 0) 4074 (bkF B)]) H := hP
    have hD : va_D A ([moO ma (updZ M 0 1), arC (ma 1) (τ 0) 291 (flR R), arC (ma 4) (τ 0) 4074 (bkF B)]) := hD
    refine tl_some ?_
    refine cv_i (y := iI 1) (congrArg iI (if_neg (by decide))) ?_
    refine zi_if_eq (tgt := 67) hx hb ⟨by decide, by decide⟩ dX10_seal_62 (by decide) (fun c_11 => ?_) (fun c_11 => ?_)
    · exact absurd c_11 (by decide)
    refine lv_iconst (v := iI 0) hx hb dX10_seal_65 (by decide) ?_
    exact rw_iret hx hb hr hlocks hP hS (by first | (have ha : aSeal R z1 a1 q1 b1 x1 = (-2, R) := (by unfold aSeal; rw [if_pos (by omega)]); exact ⟨(updZ M 0 1), by show M 9 = M 9; first | rfl | omega, Or.inl ⟨by rw [ha]; show (-2 : Int) < 0; decide, rfl, by rw [ha]; show 1 = _; rfl, by show M 5 = M 5; first | rfl | omega, rfl⟩⟩)) dX10_seal_66

theorem cd_X10_show : cd yX10_show 2 := by decide +kernel
theorem in_X10_show_X10 : ∀ w ∈ wsX100, w ∈ wsX10_show := by decide +kernel
set_option maxHeartbeats 2000000 in
set_option maxRecDepth 100000 in
theorem c_X10_show (l : Launch) (g : va_G) (τ : Nat → ClassId) (ma : Nat → Nat) (M : Nat → Int) (R : Nat → Nat → Int) (hI : SI R) (z1 : Int) (rz1 : -2147483648 ≤ z1 ∧ z1 < 2147483648) (y1 : Int) (ry1 : -2147483648 ≤ y1 ∧ y1 < 2147483648) (B : Nat → Nat → Nat → Int) (hn5 : 0 ≤ M 5 ∧ M 5 ≤ 14)  : Met l yX10_show wsX10_show { frames := 2, cells := 0, slots := 0, locals := 47 } (va_Pc [Value.ref (ma 0), Value.int (iI z1), Value.int (iI y1)] (rwW g τ ([moO ma M, arC (ma 1) (τ 0) 291 (flR R), arC (ma 4) (τ 0) 4074 (bkF B)]))) (rwQ g (fun v w => ∃ M2 : Nat → Int, M2 9 = M 9 ∧ (((aShow R z1 y1).1 < 0 ∧ v = some (Value.int (iI 0)) ∧ M2 0 = cd3 (aShow R z1 y1).1 1 2 0 ∧ M2 5 = M 5 ∧ w = [moO ma M2, arC (ma 1) (τ 0) 291 (flR R), arC (ma 4) (τ 0) 4074 (bkF B)]) ∨ (0 ≤ (aShow R z1 y1).1 ∧ v = some (Value.int (iI (aShow R z1 y1).1)) ∧ M2 0 = 0 ∧ M2 5 = (rmB (M 5) B R).1 ∧ w = [moO ma M2, arC (ma 1) (τ 0) 291 (flR (aShow R z1 y1).2), arC (ma 4) (τ 0) 4074 (bkF (rmB (M 5) B R).2)]))) (inW ([moO ma M, arC (ma 1) (τ 0) 291 (flR R), arC (ma 4) (τ 0) 4074 (bkF B)]))) 0 0 (inW ([moO ma M, arC (ma 1) (τ 0) 291 (flR R), arC (ma 4) (τ 0) 4074 (bkF B)])) := by
  have hB := hI.hB
  have hr0 := hI.r
  have hd0 := hI.d
  have hs0 := hI.s
  refine rwMet (cc := cX10_show) (maxL := 3) (ret := (some .int)) (lv := [(0, Value.ref (ma 0)), (1, Value.int (iI z1)), (2, Value.int (iI y1))]) (by decide) rfl (Nat.le_of_ble_eq_true rfl) rfl ?_
  intro p e s m below meth c hx hb hr hml hts hown hlocks A H hP hD hS hK ls hl
  refine lv_aload_n hx hb dX10_show_0 rfl (lv_at hl 0 rfl) ?_
  refine lv_aload_n hx hb dX10_show_1 rfl (lv_at hl 0 rfl) ?_
  refine va_get (D := g) (ci := 10) (v := Value.ref (ma 1)) (C := RX10) (T := TX10) (N := 18) hx hb hts in_X10_show_X10 hown hK.1 hP 0 (rfl) rfl 1 (by decide) (hts _ (List.mem_of_getElem? (i := 1) rfl) : (Cond.fieldLink RX10 7 "CordSealsModel" "now" "[I").before _ s = true) (fun _ h9 => h9) rfl dX10_show_2 ?_
  refine lv_iload_n hx hb dX10_show_5 rfl (lv_at hl 1 rfl) ?_
  refine ro_S (As := [Value.ref (ma 1), Value.int (iI z1)]) (rest := [Value.ref (ma 0)]) (v := some (Value.int (iI (zB (decide (0 ≤ z1 ∧ z1 ≤ R 10 0 - 1)))))) ⟨hx, hb, hml, hown, hts⟩ (c_X10_hasSeal l g τ (ma 1) R hI z1 ⟨by omega, by omega⟩) gX10_show_X10_hasSeal cd_X10_hasSeal rfl ⟨rfl, rfl⟩ ⟨Nat.le_of_ble_eq_true rfl, Nat.le_of_ble_eq_true rfl⟩ hK (cut_P (is := [1]) hP rfl) rfl hl rfl (Nat.le_of_ble_eq_true rfl) dX10_show_6 ⟨Nat.le_of_ble_eq_true rfl, Nat.le_of_ble_eq_true rfl⟩ ?_
  refine tl_some ?_
  refine zb_if_ne (tgt := 16) hx hb dX10_show_9 (by decide) (fun c_1 => ?_) (fun c_1 => ?_)
  · have cd_c_1 := of_decide_eq_true c_1
    obtain ⟨s1, rfl⟩ := Int.eq_ofNat_of_zero_le (show 0 ≤ z1 by omega)
    have hsl := hI.sl s1 (by omega)
    have hdl := hI.ds (R 11 s1).toNat (by omega)
    have hpw := pow_r (m := (R 8 (R 11 s1).toNat).toNat) (by omega)
    refine lv_aload_n hx hb dX10_show_16 rfl (lv_at hl 0 rfl) ?_
    refine va_get (D := g) (ci := 10) (v := Value.ref (ma 1)) (C := RX10) (T := TX10) (N := 18) hx hb hts in_X10_show_X10 hown hK.1 hP 0 (rfl) rfl 1 (by decide) (hts _ (List.mem_of_getElem? (i := 1) rfl) : (Cond.fieldLink RX10 7 "CordSealsModel" "now" "[I").before _ s = true) (fun _ h9 => h9) rfl dX10_show_17 ?_
    refine lv_aload_n hx hb dX10_show_20 rfl (lv_at hl 0 rfl) ?_
    refine va_get (D := g) (ci := 10) (v := Value.ref (ma 1)) (C := RX10) (T := TX10) (N := 18) hx hb hts in_X10_show_X10 hown hK.1 hP 0 (rfl) rfl 1 (by decide) (hts _ (List.mem_of_getElem? (i := 1) rfl) : (Cond.fieldLink RX10 7 "CordSealsModel" "now" "[I").before _ s = true) (fun _ h9 => h9) rfl dX10_show_21 ?_
    refine lv_bipush (v := iI 105) hx hb dX10_show_24 (by decide) ?_
    refine lv_iload_n hx hb dX10_show_26 rfl (lv_at hl 1 rfl) ?_
    refine zi_add hx hb dX10_show_27 ?_
    refine zf_ald hx hb hK hP 1 (f := flR R) rfl (105 + s1) (by omega) (by omega) (by decide) (z := R 11 s1) (fl_11 (i := s1) (by omega) (by omega)) dX10_show_28 ?_
    have hb_2 := hB 11 s1
    refine cv_i (y := iI (((R 11 s1).toNat : Nat) : Int)) (congrArg iI (by omega)) ?_
    refine lv_iload_n hx hb dX10_show_29 rfl (lv_at hl 2 rfl) ?_
    refine ro_S (As := [Value.ref (ma 1), Value.int (iI (((R 11 s1).toNat : Nat) : Int)), Value.int (iI y1)]) (rest := [Value.ref (ma 0)]) (v := some (Value.int (iI (zB (decide (0 ≤ y1 ∧ y1 ≤ (2 : Int) ^ (R 8 ((R 11 s1).toNat)).toNat - 1)))))) ⟨hx, hb, hml, hown, hts⟩ (c_X10_areCracks l g τ (ma 1) R hI ((R 11 s1).toNat) (by omega) y1 ⟨by omega, by omega⟩) gX10_show_X10_areCracks cd_X10_areCracks rfl ⟨rfl, rfl⟩ ⟨Nat.le_of_ble_eq_true rfl, Nat.le_of_ble_eq_true rfl⟩ hK (cut_P (is := [1]) hP rfl) rfl hl rfl (Nat.le_of_ble_eq_true rfl) dX10_show_30 ⟨Nat.le_of_ble_eq_true rfl, Nat.le_of_ble_eq_true rfl⟩ ?_
    refine tl_some ?_
    refine zb_if_ne (tgt := 40) hx hb dX10_show_33 (by decide) (fun c_3 => ?_) (fun c_3 => ?_)
    · have cd_c_3 := of_decide_eq_true c_3
      refine lv_iconst (v := iI 0) hx hb dX10_show_40 (by decide) ?_
      refine rw_V (As := [Value.int (iI 0)]) (rest := []) ⟨hx, hb, hml, hown, hts⟩ (c_X10_refused l g τ ma M 0 ⟨by decide, by decide⟩) gX10_show_X10_refused cd_X10_refused rfl rfl ⟨rfl, rfl⟩ ⟨Nat.le_of_ble_eq_true rfl, Nat.le_of_ble_eq_true rfl⟩ hK hP hD hS [0] (rfl) (by decide) 0 rfl rfl rfl rfl hl rfl (Nat.le_of_ble_eq_true rfl) dX10_show_41 ⟨Nat.le_of_ble_eq_true rfl, Nat.le_of_ble_eq_true rfl⟩ (fun v w h => by rw [h.2]; rfl) (fun v w1 H locs hZ hP hD hS => ?_)
      obtain ⟨rfl, rfl⟩ := hZ
      have hP : va_P g vwCl ([moO ma (updZ M 0 0), arC (ma 1) (τ 0) 291 (flR R), arC (ma 4) (τ 0) 4074 (bkF B)]) H := hP
      have hD : va_D A ([moO ma (updZ M 0 0), arC (ma 1) (τ 0) 291 (flR R), arC (ma 4) (τ 0) 4074 (bkF B)]) := hD
      refine tl_some ?_
      refine cv_i (y := iI 0) (congrArg iI (if_pos rfl)) ?_
      refine zi_if_eq (tgt := 49) hx hb ⟨by decide, by decide⟩ dX10_show_44 (by decide) (fun c_4 => ?_) (fun c_4 => ?_)
      · skip
        refine lv_aload_n hx hb dX10_show_49 rfl (lv_at hl 0 rfl) ?_
        refine rw_V (As := []) (rest := []) ⟨hx, hb, hml, hown, hts⟩ (c_X10_remember l g τ ma (updZ M 0 0) R hI B (by show 0 ≤ M 5 ∧ M 5 ≤ 14; omega)) gX10_show_X10_remember cd_X10_remember rfl rfl ⟨rfl, rfl⟩ ⟨Nat.le_of_ble_eq_true rfl, Nat.le_of_ble_eq_true rfl⟩ hK hP hD hS [0, 1, 2] (rfl) (by decide) 0 rfl rfl rfl rfl hl rfl (Nat.le_of_ble_eq_true rfl) dX10_show_50 ⟨Nat.le_of_ble_eq_true rfl, Nat.le_of_ble_eq_true rfl⟩ (fun v w h => by obtain ⟨-, M9, -, -, -, rfl⟩ := h; rfl) (fun v w1 H locs hZ hP hD hS => ?_)
        obtain ⟨rfl, M_5, hfM_5_0, hfM_5_5, hfM_5_9, rfl⟩ := hZ
        have hP : va_P g vwCl ([moO ma M_5, arC (ma 1) (τ 0) 291 (flR R), arC (ma 4) (τ 0) 4074 (bkF (rmB (M 5) B R).2)]) H := hP
        have hD : va_D A ([moO ma M_5, arC (ma 1) (τ 0) 291 (flR R), arC (ma 4) (τ 0) 4074 (bkF (rmB (M 5) B R).2)]) := hD
        have hfM_5_0 : M_5 0 = 0 := hfM_5_0
        have hfM_5_5 : M_5 5 = (rmB (M 5) B R).1 := hfM_5_5
        have hfM_5_9 : M_5 9 = M 9 := hfM_5_9
        refine tl_none ?_
        refine lv_aload_n hx hb dX10_show_53 rfl (lv_at hl 0 rfl) ?_
        refine va_get (D := g) (ci := 10) (v := Value.ref (ma 1)) (C := RX10) (T := TX10) (N := 18) hx hb hts in_X10_show_X10 hown hK.1 hP 0 (rfl) rfl 1 (by decide) (hts _ (List.mem_of_getElem? (i := 1) rfl) : (Cond.fieldLink RX10 7 "CordSealsModel" "now" "[I").before _ s = true) (fun _ h9 => h9) rfl dX10_show_54 ?_
        refine lv_iload_n hx hb dX10_show_57 rfl (lv_at hl 1 rfl) ?_
        refine lv_iload_n hx hb dX10_show_58 rfl (lv_at hl 2 rfl) ?_
        refine rw_S (As := [Value.ref (ma 1), Value.int (iI (s1 : Int)), Value.int (iI y1)]) (rest := []) ⟨hx, hb, hml, hown, hts⟩ (c_X10_goShow l g τ (ma 1) R hI s1 (by omega) y1 ⟨by omega, by omega⟩) gX10_show_X10_goShow cd_X10_goShow rfl ⟨rfl, rfl⟩ ⟨Nat.le_of_ble_eq_true rfl, Nat.le_of_ble_eq_true rfl⟩ hK hP hD hS [1] (rfl) (by decide) rfl hl rfl (Nat.le_of_ble_eq_true rfl) dX10_show_59 ⟨Nat.le_of_ble_eq_true rfl, Nat.le_of_ble_eq_true rfl⟩ (fun v w h => by rw [h.2]; exact f_fl _ _ _ _) (fun v w1 H locs hZ hP hD hS => ?_)
        obtain ⟨rfl, rfl⟩ := hZ
        have hP : va_P g vwCl ([moO ma M_5, arC (ma 1) (τ 0) 291 (flR (u2 R 15 (updZ (R 15) s1 y1))), arC (ma 4) (τ 0) 4074 (bkF (rmB (M 5) B R).2)]) H := hP
        have hD : va_D A ([moO ma M_5, arC (ma 1) (τ 0) 291 (flR (u2 R 15 (updZ (R 15) s1 y1))), arC (ma 4) (τ 0) 4074 (bkF (rmB (M 5) B R).2)]) := hD
        refine tl_some ?_
        exact rw_iret hx hb hr hlocks hP hS (by first | (have ha : aShow R (s1 : Int) y1 = (R 15 s1, u2 R 15 (updZ (R 15) s1 y1)) := (by unfold aShow; rw [if_neg (by omega)]; try simp only [Int.toNat_natCast]; rw [if_neg (by omega)]); exact ⟨M_5, by show M_5 9 = M 9; first | rfl | omega, Or.inr ⟨by rw [ha]; show (0 : Int) ≤ R 15 s1; omega, by rw [ha], by show M_5 0 = 0; first | rfl | omega, by show M_5 5 = _; first | rfl | omega, by rw [ha]⟩⟩)) dX10_show_62
      · exact absurd c_4 (by decide)
    · have cd_c_3 := of_decide_eq_false c_3
      refine lv_iconst (v := iI 2) hx hb dX10_show_36 (by decide) ?_
      refine lv_goto (tgt := 41) hx hb dX10_show_37 (by decide) ?_
      refine rw_V (As := [Value.int (iI 2)]) (rest := []) ⟨hx, hb, hml, hown, hts⟩ (c_X10_refused l g τ ma M 2 ⟨by decide, by decide⟩) gX10_show_X10_refused cd_X10_refused rfl rfl ⟨rfl, rfl⟩ ⟨Nat.le_of_ble_eq_true rfl, Nat.le_of_ble_eq_true rfl⟩ hK hP hD hS [0] (rfl) (by decide) 0 rfl rfl rfl rfl hl rfl (Nat.le_of_ble_eq_true rfl) dX10_show_41 ⟨Nat.le_of_ble_eq_true rfl, Nat.le_of_ble_eq_true rfl⟩ (fun v w h => by rw [h.2]; rfl) (fun v w1 H locs hZ hP hD hS => ?_)
      obtain ⟨rfl, rfl⟩ := hZ
      have hP : va_P g vwCl ([moO ma (updZ M 0 2), arC (ma 1) (τ 0) 291 (flR R), arC (ma 4) (τ 0) 4074 (bkF B)]) H := hP
      have hD : va_D A ([moO ma (updZ M 0 2), arC (ma 1) (τ 0) 291 (flR R), arC (ma 4) (τ 0) 4074 (bkF B)]) := hD
      refine tl_some ?_
      refine cv_i (y := iI 1) (congrArg iI (if_neg (by decide))) ?_
      refine zi_if_eq (tgt := 49) hx hb ⟨by decide, by decide⟩ dX10_show_44 (by decide) (fun c_6 => ?_) (fun c_6 => ?_)
      · exact absurd c_6 (by decide)
      refine lv_iconst (v := iI 0) hx hb dX10_show_47 (by decide) ?_
      exact rw_iret hx hb hr hlocks hP hS (by first | (have ha : aShow R (s1 : Int) y1 = (-3, R) := (by unfold aShow; rw [if_neg (by omega)]; try simp only [Int.toNat_natCast]; rw [if_pos (by omega)]); exact ⟨(updZ M 0 2), by show M 9 = M 9; first | rfl | omega, Or.inl ⟨by rw [ha]; show (-3 : Int) < 0; decide, rfl, by rw [ha]; show 2 = _; rfl, by show M 5 = M 5; first | rfl | omega, rfl⟩⟩)) dX10_show_48
  · have cd_c_1 := of_decide_eq_false c_1
    refine lv_iconst (v := iI 1) hx hb dX10_show_12 (by decide) ?_
    refine lv_goto (tgt := 41) hx hb dX10_show_13 (by decide) ?_
    refine rw_V (As := [Value.int (iI 1)]) (rest := []) ⟨hx, hb, hml, hown, hts⟩ (c_X10_refused l g τ ma M 1 ⟨by decide, by decide⟩) gX10_show_X10_refused cd_X10_refused rfl rfl ⟨rfl, rfl⟩ ⟨Nat.le_of_ble_eq_true rfl, Nat.le_of_ble_eq_true rfl⟩ hK hP hD hS [0] (rfl) (by decide) 0 rfl rfl rfl rfl hl rfl (Nat.le_of_ble_eq_true rfl) dX10_show_41 ⟨Nat.le_of_ble_eq_true rfl, Nat.le_of_ble_eq_true rfl⟩ (fun v w h => by rw [h.2]; rfl) (fun v w1 H locs hZ hP hD hS => ?_)
    obtain ⟨rfl, rfl⟩ := hZ
    have hP : va_P g vwCl ([moO ma (updZ M 0 1), arC (ma 1) (τ 0) 291 (flR R), arC (ma 4) (τ 0) 4074 (bkF B)]) H := hP
    have hD : va_D A ([moO ma (updZ M 0 1), arC (ma 1) (τ 0) 291 (flR R), arC (ma 4) (τ 0) 4074 (bkF B)]) := hD
    refine tl_some ?_
    refine cv_i (y := iI 1) (congrArg iI (if_neg (by decide))) ?_
    refine zi_if_eq (tgt := 49) hx hb ⟨by decide, by decide⟩ dX10_show_44 (by decide) (fun c_7 => ?_) (fun c_7 => ?_)
    · exact absurd c_7 (by decide)
    refine lv_iconst (v := iI 0) hx hb dX10_show_47 (by decide) ?_
    exact rw_iret hx hb hr hlocks hP hS (by first | (have ha : aShow R z1 y1 = (-2, R) := (by unfold aShow; rw [if_pos (by omega)]); exact ⟨(updZ M 0 1), by show M 9 = M 9; first | rfl | omega, Or.inl ⟨by rw [ha]; show (-2 : Int) < 0; decide, rfl, by rw [ha]; show 1 = _; rfl, by show M 5 = M 5; first | rfl | omega, rfl⟩⟩)) dX10_show_48

theorem cd_X10_hang : cd yX10_hang 2 := by decide +kernel
theorem in_X10_hang_X10 : ∀ w ∈ wsX100, w ∈ wsX10_hang := by decide +kernel
set_option maxHeartbeats 2000000 in
set_option maxRecDepth 100000 in
theorem c_X10_hang (l : Launch) (g : va_G) (τ : Nat → ClassId) (ma : Nat → Nat) (M : Nat → Int) (R : Nat → Nat → Int) (hI : SI R) (z1 : Int) (rz1 : -2147483648 ≤ z1 ∧ z1 < 2147483648) (y1 : Int) (ry1 : -2147483648 ≤ y1 ∧ y1 < 2147483648) (B : Nat → Nat → Nat → Int) (hn5 : 0 ≤ M 5 ∧ M 5 ≤ 14)  : Met l yX10_hang wsX10_hang { frames := 2, cells := 0, slots := 0, locals := 46 } (va_Pc [Value.ref (ma 0), Value.int (iI z1), Value.int (iI y1)] (rwW g τ ([moO ma M, arC (ma 1) (τ 0) 291 (flR R), arC (ma 4) (τ 0) 4074 (bkF B)]))) (rwQ g (fun v w => ∃ M2 : Nat → Int, M2 9 = M 9 ∧ (((aHang R z1 y1).1 < 0 ∧ v = some (Value.int (iI 0)) ∧ M2 0 = cd3 (aHang R z1 y1).1 1 0 0 ∧ M2 5 = M 5 ∧ w = [moO ma M2, arC (ma 1) (τ 0) 291 (flR R), arC (ma 4) (τ 0) 4074 (bkF B)]) ∨ (0 ≤ (aHang R z1 y1).1 ∧ v = some (Value.int (iI (aHang R z1 y1).1)) ∧ M2 0 = 0 ∧ M2 5 = (rmB (M 5) B R).1 ∧ w = [moO ma M2, arC (ma 1) (τ 0) 291 (flR (aHang R z1 y1).2), arC (ma 4) (τ 0) 4074 (bkF (rmB (M 5) B R).2)]))) (inW ([moO ma M, arC (ma 1) (τ 0) 291 (flR R), arC (ma 4) (τ 0) 4074 (bkF B)]))) 0 0 (inW ([moO ma M, arC (ma 1) (τ 0) 291 (flR R), arC (ma 4) (τ 0) 4074 (bkF B)])) := by
  have hB := hI.hB
  have hr0 := hI.r
  have hd0 := hI.d
  have hs0 := hI.s
  refine rwMet (cc := cX10_hang) (maxL := 3) (ret := (some .int)) (lv := [(0, Value.ref (ma 0)), (1, Value.int (iI z1)), (2, Value.int (iI y1))]) (by decide) rfl (Nat.le_of_ble_eq_true rfl) rfl ?_
  intro p e s m below meth c hx hb hr hml hts hown hlocks A H hP hD hS hK ls hl
  refine lv_aload_n hx hb dX10_hang_0 rfl (lv_at hl 0 rfl) ?_
  refine lv_aload_n hx hb dX10_hang_1 rfl (lv_at hl 0 rfl) ?_
  refine va_get (D := g) (ci := 10) (v := Value.ref (ma 1)) (C := RX10) (T := TX10) (N := 18) hx hb hts in_X10_hang_X10 hown hK.1 hP 0 (rfl) rfl 1 (by decide) (hts _ (List.mem_of_getElem? (i := 1) rfl) : (Cond.fieldLink RX10 7 "CordSealsModel" "now" "[I").before _ s = true) (fun _ h9 => h9) rfl dX10_hang_2 ?_
  refine lv_iload_n hx hb dX10_hang_5 rfl (lv_at hl 1 rfl) ?_
  refine ro_S (As := [Value.ref (ma 1), Value.int (iI z1)]) (rest := [Value.ref (ma 0)]) (v := some (Value.int (iI (zB (decide (0 ≤ z1 ∧ z1 ≤ R 10 0 - 1)))))) ⟨hx, hb, hml, hown, hts⟩ (c_X10_hasSeal l g τ (ma 1) R hI z1 ⟨by omega, by omega⟩) gX10_hang_X10_hasSeal cd_X10_hasSeal rfl ⟨rfl, rfl⟩ ⟨Nat.le_of_ble_eq_true rfl, Nat.le_of_ble_eq_true rfl⟩ hK (cut_P (is := [1]) hP rfl) rfl hl rfl (Nat.le_of_ble_eq_true rfl) dX10_hang_6 ⟨Nat.le_of_ble_eq_true rfl, Nat.le_of_ble_eq_true rfl⟩ ?_
  refine tl_some ?_
  refine zb_if_eq (tgt := 23) hx hb dX10_hang_9 (by decide) (fun c_1 => ?_) (fun c_1 => ?_)
  · have cd_c_1 := of_decide_eq_false c_1
    refine lv_iconst (v := iI 1) hx hb dX10_hang_23 (by decide) ?_
    refine rw_V (As := [Value.int (iI 1)]) (rest := []) ⟨hx, hb, hml, hown, hts⟩ (c_X10_refused l g τ ma M 1 ⟨by decide, by decide⟩) gX10_hang_X10_refused cd_X10_refused rfl rfl ⟨rfl, rfl⟩ ⟨Nat.le_of_ble_eq_true rfl, Nat.le_of_ble_eq_true rfl⟩ hK hP hD hS [0] (rfl) (by decide) 0 rfl rfl rfl rfl hl rfl (Nat.le_of_ble_eq_true rfl) dX10_hang_24 ⟨Nat.le_of_ble_eq_true rfl, Nat.le_of_ble_eq_true rfl⟩ (fun v w h => by rw [h.2]; rfl) (fun v w1 H locs hZ hP hD hS => ?_)
    obtain ⟨rfl, rfl⟩ := hZ
    have hP : va_P g vwCl ([moO ma (updZ M 0 1), arC (ma 1) (τ 0) 291 (flR R), arC (ma 4) (τ 0) 4074 (bkF B)]) H := hP
    have hD : va_D A ([moO ma (updZ M 0 1), arC (ma 1) (τ 0) 291 (flR R), arC (ma 4) (τ 0) 4074 (bkF B)]) := hD
    refine tl_some ?_
    refine cv_i (y := iI 1) (congrArg iI (if_neg (by decide))) ?_
    refine zi_if_eq (tgt := 32) hx hb ⟨by decide, by decide⟩ dX10_hang_27 (by decide) (fun c_2 => ?_) (fun c_2 => ?_)
    · exact absurd c_2 (by decide)
    refine lv_iconst (v := iI 0) hx hb dX10_hang_30 (by decide) ?_
    exact rw_iret hx hb hr hlocks hP hS (by first | (have ha : aHang R z1 y1 = (-2, R) := (by unfold aHang; rw [if_pos (by omega)]); exact ⟨(updZ M 0 1), by show M 9 = M 9; first | rfl | omega, Or.inl ⟨by rw [ha]; show (-2 : Int) < 0; decide, rfl, by rw [ha]; show 1 = _; rfl, by show M 5 = M 5; first | rfl | omega, rfl⟩⟩)) dX10_hang_31
  · have cd_c_1 := of_decide_eq_true c_1
    refine lv_iload_n hx hb dX10_hang_12 rfl (lv_at hl 2 rfl) ?_
    refine ro_S (As := [Value.int (iI y1)]) (rest := [Value.ref (ma 0)]) (v := some (Value.int (iI (zB (decide (0 ≤ y1 ∧ y1 ≤ 5)))))) ⟨hx, hb, hml, hown, hts⟩ (c_X10_isCharter l g τ y1 ⟨by omega, by omega⟩) gX10_hang_X10_isCharter cd_X10_isCharter rfl ⟨rfl, rfl⟩ ⟨Nat.le_of_ble_eq_true rfl, Nat.le_of_ble_eq_true rfl⟩ hK (fun _ _ h => by cases h) rfl hl rfl (Nat.le_of_ble_eq_true rfl) dX10_hang_13 ⟨Nat.le_of_ble_eq_true rfl, Nat.le_of_ble_eq_true rfl⟩ ?_
    refine tl_some ?_
    refine zb_if_eq (tgt := 23) hx hb dX10_hang_16 (by decide) (fun c_3 => ?_) (fun c_3 => ?_)
    · have cd_c_3 := of_decide_eq_false c_3
      refine lv_iconst (v := iI 1) hx hb dX10_hang_23 (by decide) ?_
      refine rw_V (As := [Value.int (iI 1)]) (rest := []) ⟨hx, hb, hml, hown, hts⟩ (c_X10_refused l g τ ma M 1 ⟨by decide, by decide⟩) gX10_hang_X10_refused cd_X10_refused rfl rfl ⟨rfl, rfl⟩ ⟨Nat.le_of_ble_eq_true rfl, Nat.le_of_ble_eq_true rfl⟩ hK hP hD hS [0] (rfl) (by decide) 0 rfl rfl rfl rfl hl rfl (Nat.le_of_ble_eq_true rfl) dX10_hang_24 ⟨Nat.le_of_ble_eq_true rfl, Nat.le_of_ble_eq_true rfl⟩ (fun v w h => by rw [h.2]; rfl) (fun v w1 H locs hZ hP hD hS => ?_)
      obtain ⟨rfl, rfl⟩ := hZ
      have hP : va_P g vwCl ([moO ma (updZ M 0 1), arC (ma 1) (τ 0) 291 (flR R), arC (ma 4) (τ 0) 4074 (bkF B)]) H := hP
      have hD : va_D A ([moO ma (updZ M 0 1), arC (ma 1) (τ 0) 291 (flR R), arC (ma 4) (τ 0) 4074 (bkF B)]) := hD
      refine tl_some ?_
      refine cv_i (y := iI 1) (congrArg iI (if_neg (by decide))) ?_
      refine zi_if_eq (tgt := 32) hx hb ⟨by decide, by decide⟩ dX10_hang_27 (by decide) (fun c_4 => ?_) (fun c_4 => ?_)
      · exact absurd c_4 (by decide)
      refine lv_iconst (v := iI 0) hx hb dX10_hang_30 (by decide) ?_
      exact rw_iret hx hb hr hlocks hP hS (by first | (have ha : aHang R z1 y1 = (-2, R) := (by unfold aHang; rw [if_pos (by omega)]); exact ⟨(updZ M 0 1), by show M 9 = M 9; first | rfl | omega, Or.inl ⟨by rw [ha]; show (-2 : Int) < 0; decide, rfl, by rw [ha]; show 1 = _; rfl, by show M 5 = M 5; first | rfl | omega, rfl⟩⟩)) dX10_hang_31
    · have cd_c_3 := of_decide_eq_true c_3
      refine lv_iconst (v := iI 0) hx hb dX10_hang_19 (by decide) ?_
      refine lv_goto (tgt := 24) hx hb dX10_hang_20 (by decide) ?_
      refine rw_V (As := [Value.int (iI 0)]) (rest := []) ⟨hx, hb, hml, hown, hts⟩ (c_X10_refused l g τ ma M 0 ⟨by decide, by decide⟩) gX10_hang_X10_refused cd_X10_refused rfl rfl ⟨rfl, rfl⟩ ⟨Nat.le_of_ble_eq_true rfl, Nat.le_of_ble_eq_true rfl⟩ hK hP hD hS [0] (rfl) (by decide) 0 rfl rfl rfl rfl hl rfl (Nat.le_of_ble_eq_true rfl) dX10_hang_24 ⟨Nat.le_of_ble_eq_true rfl, Nat.le_of_ble_eq_true rfl⟩ (fun v w h => by rw [h.2]; rfl) (fun v w1 H locs hZ hP hD hS => ?_)
      obtain ⟨rfl, rfl⟩ := hZ
      have hP : va_P g vwCl ([moO ma (updZ M 0 0), arC (ma 1) (τ 0) 291 (flR R), arC (ma 4) (τ 0) 4074 (bkF B)]) H := hP
      have hD : va_D A ([moO ma (updZ M 0 0), arC (ma 1) (τ 0) 291 (flR R), arC (ma 4) (τ 0) 4074 (bkF B)]) := hD
      refine tl_some ?_
      refine cv_i (y := iI 0) (congrArg iI (if_pos rfl)) ?_
      refine zi_if_eq (tgt := 32) hx hb ⟨by decide, by decide⟩ dX10_hang_27 (by decide) (fun c_5 => ?_) (fun c_5 => ?_)
      · skip
        obtain ⟨s1, rfl⟩ := Int.eq_ofNat_of_zero_le (show 0 ≤ z1 by omega)
        have hhp := hang_pos (R := R) (s := s1) (z := y1) (by omega)
        refine lv_aload_n hx hb dX10_hang_32 rfl (lv_at hl 0 rfl) ?_
        refine rw_V (As := []) (rest := []) ⟨hx, hb, hml, hown, hts⟩ (c_X10_remember l g τ ma (updZ M 0 0) R hI B (by show 0 ≤ M 5 ∧ M 5 ≤ 14; omega)) gX10_hang_X10_remember cd_X10_remember rfl rfl ⟨rfl, rfl⟩ ⟨Nat.le_of_ble_eq_true rfl, Nat.le_of_ble_eq_true rfl⟩ hK hP hD hS [0, 1, 2] (rfl) (by decide) 0 rfl rfl rfl rfl hl rfl (Nat.le_of_ble_eq_true rfl) dX10_hang_33 ⟨Nat.le_of_ble_eq_true rfl, Nat.le_of_ble_eq_true rfl⟩ (fun v w h => by obtain ⟨-, M9, -, -, -, rfl⟩ := h; rfl) (fun v w1 H locs hZ hP hD hS => ?_)
        obtain ⟨rfl, M_6, hfM_6_0, hfM_6_5, hfM_6_9, rfl⟩ := hZ
        have hP : va_P g vwCl ([moO ma M_6, arC (ma 1) (τ 0) 291 (flR R), arC (ma 4) (τ 0) 4074 (bkF (rmB (M 5) B R).2)]) H := hP
        have hD : va_D A ([moO ma M_6, arC (ma 1) (τ 0) 291 (flR R), arC (ma 4) (τ 0) 4074 (bkF (rmB (M 5) B R).2)]) := hD
        have hfM_6_0 : M_6 0 = 0 := hfM_6_0
        have hfM_6_5 : M_6 5 = (rmB (M 5) B R).1 := hfM_6_5
        have hfM_6_9 : M_6 9 = M 9 := hfM_6_9
        refine tl_none ?_
        refine lv_aload_n hx hb dX10_hang_36 rfl (lv_at hl 0 rfl) ?_
        refine va_get (D := g) (ci := 10) (v := Value.ref (ma 1)) (C := RX10) (T := TX10) (N := 18) hx hb hts in_X10_hang_X10 hown hK.1 hP 0 (rfl) rfl 1 (by decide) (hts _ (List.mem_of_getElem? (i := 1) rfl) : (Cond.fieldLink RX10 7 "CordSealsModel" "now" "[I").before _ s = true) (fun _ h9 => h9) rfl dX10_hang_37 ?_
        refine lv_iload_n hx hb dX10_hang_40 rfl (lv_at hl 1 rfl) ?_
        refine lv_iload_n hx hb dX10_hang_41 rfl (lv_at hl 2 rfl) ?_
        refine rw_S (As := [Value.ref (ma 1), Value.int (iI (s1 : Int)), Value.int (iI y1)]) (rest := []) ⟨hx, hb, hml, hown, hts⟩ (c_X10_goHang l g τ (ma 1) R hI s1 (by omega) y1 ⟨by omega, by omega⟩ (SI_hang hI ⟨by omega, by omega⟩)) gX10_hang_X10_goHang cd_X10_goHang rfl ⟨rfl, rfl⟩ ⟨Nat.le_of_ble_eq_true rfl, Nat.le_of_ble_eq_true rfl⟩ hK hP hD hS [1] (rfl) (by decide) rfl hl rfl (Nat.le_of_ble_eq_true rfl) dX10_hang_42 ⟨Nat.le_of_ble_eq_true rfl, Nat.le_of_ble_eq_true rfl⟩ (fun v w h => by rw [h.2]; exact f_fl _ _ _ _) (fun v w1 H locs hZ hP hD hS => ?_)
        obtain ⟨rfl, rfl⟩ := hZ
        have hP : va_P g vwCl ([moO ma M_6, arC (ma 1) (τ 0) 291 (flR (u2 R 16 (updZ (R 16) s1 y1))), arC (ma 4) (τ 0) 4074 (bkF (rmB (M 5) B R).2)]) H := hP
        have hD : va_D A ([moO ma M_6, arC (ma 1) (τ 0) 291 (flR (u2 R 16 (updZ (R 16) s1 y1))), arC (ma 4) (τ 0) 4074 (bkF (rmB (M 5) B R).2)]) := hD
        refine tl_some ?_
        exact rw_iret hx hb hr hlocks hP hS (by first | (have ha : aHang R (s1 : Int) y1 = (cnt (fun s => decide (updZ (R 16) s1 y1 s = y1)) (R 10 0).toNat, u2 R 16 (updZ (R 16) s1 y1)) := (by unfold aHang; rw [if_neg (by omega)]; try simp only [Int.toNat_natCast]); exact ⟨M_6, by show M_6 9 = M 9; first | rfl | omega, Or.inr ⟨by rw [ha]; show (0 : Int) ≤ cnt (fun s => decide (updZ (R 16) s1 y1 s = y1)) (R 10 0).toNat; omega, by rw [ha], by show M_6 0 = 0; first | rfl | omega, by show M_6 5 = _; first | rfl | omega, by rw [ha]⟩⟩)) dX10_hang_45
      · exact absurd c_5 (by decide)

theorem cd_X10_cut : cd yX10_cut 1 := by decide +kernel
theorem in_X10_cut_X10 : ∀ w ∈ wsX100, w ∈ wsX10_cut := by decide +kernel
set_option maxHeartbeats 2000000 in
set_option maxRecDepth 100000 in
theorem c_X10_cut (l : Launch) (g : va_G) (τ : Nat → ClassId) (ma : Nat → Nat) (M : Nat → Int) (R : Nat → Nat → Int) (hI : SI R) (z1 : Int) (rz1 : -2147483648 ≤ z1 ∧ z1 < 2147483648) (B : Nat → Nat → Nat → Int) (hn5 : 0 ≤ M 5 ∧ M 5 ≤ 14)  : Met l yX10_cut wsX10_cut { frames := 2, cells := 0, slots := 0, locals := 46 } (va_Pc [Value.ref (ma 0), Value.int (iI z1)] (rwW g τ ([moO ma M, arC (ma 1) (τ 0) 291 (flR R), arC (ma 4) (τ 0) 4074 (bkF B)]))) (rwQ g (fun v w => ∃ M2 : Nat → Int, M2 9 = M 9 ∧ (((aCut R z1).1 < 0 ∧ v = some (Value.int (iI 0)) ∧ M2 0 = cd3 (aCut R z1).1 1 0 2 ∧ M2 5 = M 5 ∧ w = [moO ma M2, arC (ma 1) (τ 0) 291 (flR R), arC (ma 4) (τ 0) 4074 (bkF B)]) ∨ (0 ≤ (aCut R z1).1 ∧ v = some (Value.int (iI (aCut R z1).1)) ∧ M2 0 = 0 ∧ M2 5 = (rmB (M 5) B R).1 ∧ w = [moO ma M2, arC (ma 1) (τ 0) 291 (flR (aCut R z1).2), arC (ma 4) (τ 0) 4074 (bkF (rmB (M 5) B R).2)]))) (inW ([moO ma M, arC (ma 1) (τ 0) 291 (flR R), arC (ma 4) (τ 0) 4074 (bkF B)]))) 0 0 (inW ([moO ma M, arC (ma 1) (τ 0) 291 (flR R), arC (ma 4) (τ 0) 4074 (bkF B)])) := by
  have hB := hI.hB
  have hr0 := hI.r
  have hd0 := hI.d
  have hs0 := hI.s
  refine rwMet (cc := cX10_cut) (maxL := 2) (ret := (some .int)) (lv := [(0, Value.ref (ma 0)), (1, Value.int (iI z1))]) (by decide) rfl (Nat.le_of_ble_eq_true rfl) rfl ?_
  intro p e s m below meth c hx hb hr hml hts hown hlocks A H hP hD hS hK ls hl
  refine lv_aload_n hx hb dX10_cut_0 rfl (lv_at hl 0 rfl) ?_
  refine lv_aload_n hx hb dX10_cut_1 rfl (lv_at hl 0 rfl) ?_
  refine va_get (D := g) (ci := 10) (v := Value.ref (ma 1)) (C := RX10) (T := TX10) (N := 18) hx hb hts in_X10_cut_X10 hown hK.1 hP 0 (rfl) rfl 1 (by decide) (hts _ (List.mem_of_getElem? (i := 1) rfl) : (Cond.fieldLink RX10 7 "CordSealsModel" "now" "[I").before _ s = true) (fun _ h9 => h9) rfl dX10_cut_2 ?_
  refine lv_iload_n hx hb dX10_cut_5 rfl (lv_at hl 1 rfl) ?_
  refine ro_S (As := [Value.ref (ma 1), Value.int (iI z1)]) (rest := [Value.ref (ma 0)]) (v := some (Value.int (iI (zB (decide (0 ≤ z1 ∧ z1 ≤ R 10 0 - 1)))))) ⟨hx, hb, hml, hown, hts⟩ (c_X10_hasSeal l g τ (ma 1) R hI z1 ⟨by omega, by omega⟩) gX10_cut_X10_hasSeal cd_X10_hasSeal rfl ⟨rfl, rfl⟩ ⟨Nat.le_of_ble_eq_true rfl, Nat.le_of_ble_eq_true rfl⟩ hK (cut_P (is := [1]) hP rfl) rfl hl rfl (Nat.le_of_ble_eq_true rfl) dX10_cut_6 ⟨Nat.le_of_ble_eq_true rfl, Nat.le_of_ble_eq_true rfl⟩ ?_
  refine tl_some ?_
  refine zb_if_ne (tgt := 16) hx hb dX10_cut_9 (by decide) (fun c_1 => ?_) (fun c_1 => ?_)
  · have cd_c_1 := of_decide_eq_true c_1
    obtain ⟨s1, rfl⟩ := Int.eq_ofNat_of_zero_le (show 0 ≤ z1 by omega)
    have hsl := hI.sl s1 (by omega)
    refine lv_aload_n hx hb dX10_cut_16 rfl (lv_at hl 0 rfl) ?_
    refine va_get (D := g) (ci := 10) (v := Value.ref (ma 1)) (C := RX10) (T := TX10) (N := 18) hx hb hts in_X10_cut_X10 hown hK.1 hP 0 (rfl) rfl 1 (by decide) (hts _ (List.mem_of_getElem? (i := 1) rfl) : (Cond.fieldLink RX10 7 "CordSealsModel" "now" "[I").before _ s = true) (fun _ h9 => h9) rfl dX10_cut_17 ?_
    refine lv_sipush (v := iI 225) hx hb dX10_cut_20 (by decide) ?_
    refine lv_iload_n hx hb dX10_cut_23 rfl (lv_at hl 1 rfl) ?_
    refine zi_add hx hb dX10_cut_24 ?_
    refine zf_ald hx hb hK hP 1 (f := flR R) rfl (225 + s1) (by omega) (by omega) (by decide) (z := R 16 s1) (fl_16 (i := s1) (by omega) (by omega)) dX10_cut_25 ?_
    have hb_2 := hB 16 s1
    refine lv_iconst (v := iI (-1)) hx hb dX10_cut_26 (by decide) ?_
    refine zi_icmp_ne (tgt := 34) hx hb ⟨by omega, by omega⟩ ⟨by decide, by decide⟩ dX10_cut_27 (by decide) (fun c_3 => ?_) (fun c_3 => ?_)
    · have _ := c_3
      refine lv_iconst (v := iI 0) hx hb dX10_cut_34 (by decide) ?_
      refine rw_V (As := [Value.int (iI 0)]) (rest := []) ⟨hx, hb, hml, hown, hts⟩ (c_X10_refused l g τ ma M 0 ⟨by decide, by decide⟩) gX10_cut_X10_refused cd_X10_refused rfl rfl ⟨rfl, rfl⟩ ⟨Nat.le_of_ble_eq_true rfl, Nat.le_of_ble_eq_true rfl⟩ hK hP hD hS [0] (rfl) (by decide) 0 rfl rfl rfl rfl hl rfl (Nat.le_of_ble_eq_true rfl) dX10_cut_35 ⟨Nat.le_of_ble_eq_true rfl, Nat.le_of_ble_eq_true rfl⟩ (fun v w h => by rw [h.2]; rfl) (fun v w1 H locs hZ hP hD hS => ?_)
      obtain ⟨rfl, rfl⟩ := hZ
      have hP : va_P g vwCl ([moO ma (updZ M 0 0), arC (ma 1) (τ 0) 291 (flR R), arC (ma 4) (τ 0) 4074 (bkF B)]) H := hP
      have hD : va_D A ([moO ma (updZ M 0 0), arC (ma 1) (τ 0) 291 (flR R), arC (ma 4) (τ 0) 4074 (bkF B)]) := hD
      refine tl_some ?_
      refine cv_i (y := iI 0) (congrArg iI (if_pos rfl)) ?_
      refine zi_if_eq (tgt := 43) hx hb ⟨by decide, by decide⟩ dX10_cut_38 (by decide) (fun c_4 => ?_) (fun c_4 => ?_)
      · skip
        refine lv_aload_n hx hb dX10_cut_43 rfl (lv_at hl 0 rfl) ?_
        refine rw_V (As := []) (rest := []) ⟨hx, hb, hml, hown, hts⟩ (c_X10_remember l g τ ma (updZ M 0 0) R hI B (by show 0 ≤ M 5 ∧ M 5 ≤ 14; omega)) gX10_cut_X10_remember cd_X10_remember rfl rfl ⟨rfl, rfl⟩ ⟨Nat.le_of_ble_eq_true rfl, Nat.le_of_ble_eq_true rfl⟩ hK hP hD hS [0, 1, 2] (rfl) (by decide) 0 rfl rfl rfl rfl hl rfl (Nat.le_of_ble_eq_true rfl) dX10_cut_44 ⟨Nat.le_of_ble_eq_true rfl, Nat.le_of_ble_eq_true rfl⟩ (fun v w h => by obtain ⟨-, M9, -, -, -, rfl⟩ := h; rfl) (fun v w1 H locs hZ hP hD hS => ?_)
        obtain ⟨rfl, M_5, hfM_5_0, hfM_5_5, hfM_5_9, rfl⟩ := hZ
        have hP : va_P g vwCl ([moO ma M_5, arC (ma 1) (τ 0) 291 (flR R), arC (ma 4) (τ 0) 4074 (bkF (rmB (M 5) B R).2)]) H := hP
        have hD : va_D A ([moO ma M_5, arC (ma 1) (τ 0) 291 (flR R), arC (ma 4) (τ 0) 4074 (bkF (rmB (M 5) B R).2)]) := hD
        have hfM_5_0 : M_5 0 = 0 := hfM_5_0
        have hfM_5_5 : M_5 5 = (rmB (M 5) B R).1 := hfM_5_5
        have hfM_5_9 : M_5 9 = M 9 := hfM_5_9
        refine tl_none ?_
        refine lv_aload_n hx hb dX10_cut_47 rfl (lv_at hl 0 rfl) ?_
        refine va_get (D := g) (ci := 10) (v := Value.ref (ma 1)) (C := RX10) (T := TX10) (N := 18) hx hb hts in_X10_cut_X10 hown hK.1 hP 0 (rfl) rfl 1 (by decide) (hts _ (List.mem_of_getElem? (i := 1) rfl) : (Cond.fieldLink RX10 7 "CordSealsModel" "now" "[I").before _ s = true) (fun _ h9 => h9) rfl dX10_cut_48 ?_
        refine lv_iload_n hx hb dX10_cut_51 rfl (lv_at hl 1 rfl) ?_
        refine rw_S (As := [Value.ref (ma 1), Value.int (iI (s1 : Int))]) (rest := []) ⟨hx, hb, hml, hown, hts⟩ (c_X10_goCut l g τ (ma 1) R hI s1 (by omega)) gX10_cut_X10_goCut cd_X10_goCut rfl ⟨rfl, rfl⟩ ⟨Nat.le_of_ble_eq_true rfl, Nat.le_of_ble_eq_true rfl⟩ hK hP hD hS [1] (rfl) (by decide) rfl hl rfl (Nat.le_of_ble_eq_true rfl) dX10_cut_52 ⟨Nat.le_of_ble_eq_true rfl, Nat.le_of_ble_eq_true rfl⟩ (fun v w h => by rw [h.2]; exact f_fl _ _ _ _) (fun v w1 H locs hZ hP hD hS => ?_)
        obtain ⟨rfl, rfl⟩ := hZ
        have hP : va_P g vwCl ([moO ma M_5, arC (ma 1) (τ 0) 291 (flR (u2 R 16 (updZ (R 16) s1 (-1)))), arC (ma 4) (τ 0) 4074 (bkF (rmB (M 5) B R).2)]) H := hP
        have hD : va_D A ([moO ma M_5, arC (ma 1) (τ 0) 291 (flR (u2 R 16 (updZ (R 16) s1 (-1)))), arC (ma 4) (τ 0) 4074 (bkF (rmB (M 5) B R).2)]) := hD
        refine tl_some ?_
        exact rw_iret hx hb hr hlocks hP hS (by first | (have ha : aCut R (s1 : Int) = (R 16 s1, u2 R 16 (updZ (R 16) s1 (-1))) := (by unfold aCut; rw [if_neg (by omega)]; try simp only [Int.toNat_natCast]; rw [if_neg (by omega)]); exact ⟨M_5, by show M_5 9 = M 9; first | rfl | omega, Or.inr ⟨by rw [ha]; show (0 : Int) ≤ R 16 s1; omega, by rw [ha], by show M_5 0 = 0; first | rfl | omega, by show M_5 5 = _; first | rfl | omega, by rw [ha]⟩⟩)) dX10_cut_55
      · exact absurd c_4 (by decide)
    · have _ := c_3
      refine lv_iconst (v := iI 2) hx hb dX10_cut_30 (by decide) ?_
      refine lv_goto (tgt := 35) hx hb dX10_cut_31 (by decide) ?_
      refine rw_V (As := [Value.int (iI 2)]) (rest := []) ⟨hx, hb, hml, hown, hts⟩ (c_X10_refused l g τ ma M 2 ⟨by decide, by decide⟩) gX10_cut_X10_refused cd_X10_refused rfl rfl ⟨rfl, rfl⟩ ⟨Nat.le_of_ble_eq_true rfl, Nat.le_of_ble_eq_true rfl⟩ hK hP hD hS [0] (rfl) (by decide) 0 rfl rfl rfl rfl hl rfl (Nat.le_of_ble_eq_true rfl) dX10_cut_35 ⟨Nat.le_of_ble_eq_true rfl, Nat.le_of_ble_eq_true rfl⟩ (fun v w h => by rw [h.2]; rfl) (fun v w1 H locs hZ hP hD hS => ?_)
      obtain ⟨rfl, rfl⟩ := hZ
      have hP : va_P g vwCl ([moO ma (updZ M 0 2), arC (ma 1) (τ 0) 291 (flR R), arC (ma 4) (τ 0) 4074 (bkF B)]) H := hP
      have hD : va_D A ([moO ma (updZ M 0 2), arC (ma 1) (τ 0) 291 (flR R), arC (ma 4) (τ 0) 4074 (bkF B)]) := hD
      refine tl_some ?_
      refine cv_i (y := iI 1) (congrArg iI (if_neg (by decide))) ?_
      refine zi_if_eq (tgt := 43) hx hb ⟨by decide, by decide⟩ dX10_cut_38 (by decide) (fun c_6 => ?_) (fun c_6 => ?_)
      · exact absurd c_6 (by decide)
      refine lv_iconst (v := iI 0) hx hb dX10_cut_41 (by decide) ?_
      exact rw_iret hx hb hr hlocks hP hS (by first | (have ha : aCut R (s1 : Int) = (-4, R) := (by unfold aCut; rw [if_neg (by omega)]; try simp only [Int.toNat_natCast]; rw [if_pos (by omega)]); exact ⟨(updZ M 0 2), by show M 9 = M 9; first | rfl | omega, Or.inl ⟨by rw [ha]; show (-4 : Int) < 0; decide, rfl, by rw [ha]; show 2 = _; rfl, by show M 5 = M 5; first | rfl | omega, rfl⟩⟩)) dX10_cut_42
  · have cd_c_1 := of_decide_eq_false c_1
    refine lv_iconst (v := iI 1) hx hb dX10_cut_12 (by decide) ?_
    refine lv_goto (tgt := 35) hx hb dX10_cut_13 (by decide) ?_
    refine rw_V (As := [Value.int (iI 1)]) (rest := []) ⟨hx, hb, hml, hown, hts⟩ (c_X10_refused l g τ ma M 1 ⟨by decide, by decide⟩) gX10_cut_X10_refused cd_X10_refused rfl rfl ⟨rfl, rfl⟩ ⟨Nat.le_of_ble_eq_true rfl, Nat.le_of_ble_eq_true rfl⟩ hK hP hD hS [0] (rfl) (by decide) 0 rfl rfl rfl rfl hl rfl (Nat.le_of_ble_eq_true rfl) dX10_cut_35 ⟨Nat.le_of_ble_eq_true rfl, Nat.le_of_ble_eq_true rfl⟩ (fun v w h => by rw [h.2]; rfl) (fun v w1 H locs hZ hP hD hS => ?_)
    obtain ⟨rfl, rfl⟩ := hZ
    have hP : va_P g vwCl ([moO ma (updZ M 0 1), arC (ma 1) (τ 0) 291 (flR R), arC (ma 4) (τ 0) 4074 (bkF B)]) H := hP
    have hD : va_D A ([moO ma (updZ M 0 1), arC (ma 1) (τ 0) 291 (flR R), arC (ma 4) (τ 0) 4074 (bkF B)]) := hD
    refine tl_some ?_
    refine cv_i (y := iI 1) (congrArg iI (if_neg (by decide))) ?_
    refine zi_if_eq (tgt := 43) hx hb ⟨by decide, by decide⟩ dX10_cut_38 (by decide) (fun c_7 => ?_) (fun c_7 => ?_)
    · exact absurd c_7 (by decide)
    refine lv_iconst (v := iI 0) hx hb dX10_cut_41 (by decide) ?_
    exact rw_iret hx hb hr hlocks hP hS (by first | (have ha : aCut R z1 = (-2, R) := (by unfold aCut; rw [if_pos (by omega)]); exact ⟨(updZ M 0 1), by show M 9 = M 9; first | rfl | omega, Or.inl ⟨by rw [ha]; show (-2 : Int) < 0; decide, rfl, by rw [ha]; show 1 = _; rfl, by show M 5 = M 5; first | rfl | omega, rfl⟩⟩)) dX10_cut_42

theorem cd_X10_shelve : cd yX10_shelve 3 := by decide +kernel
theorem in_X10_shelve_X10 : ∀ w ∈ wsX100, w ∈ wsX10_shelve := by decide +kernel
set_option maxHeartbeats 2000000 in
set_option maxRecDepth 100000 in
theorem c_X10_shelve (l : Launch) (g : va_G) (τ : Nat → ClassId) (ma : Nat → Nat) (M : Nat → Int) (R : Nat → Nat → Int) (hI : SI R) (z1 : Int) (rz1 : -2147483648 ≤ z1 ∧ z1 < 2147483648) (y1 : Int) (ry1 : -2147483648 ≤ y1 ∧ y1 < 2147483648) (x1 : Int) (rx1 : -2147483648 ≤ x1 ∧ x1 < 2147483648) (B : Nat → Nat → Nat → Int) (hn5 : 0 ≤ M 5 ∧ M 5 ≤ 14)  : Met l yX10_shelve wsX10_shelve { frames := 4, cells := 0, slots := 0, locals := 95 } (va_Pc [Value.ref (ma 0), Value.int (iI z1), Value.int (iI y1), Value.int (iI x1)] (rwW g τ ([moO ma M, arC (ma 1) (τ 0) 291 (flR R), arC (ma 4) (τ 0) 4074 (bkF B)]))) (rwQ g (fun v w => ∃ M2 : Nat → Int, M2 9 = M 9 ∧ (((aShelve R z1 y1 x1).1 < 0 ∧ v = some (Value.int (iI 0)) ∧ M2 0 = cd3 (aShelve R z1 y1 x1).1 1 2 3 ∧ M2 5 = M 5 ∧ w = [moO ma M2, arC (ma 1) (τ 0) 291 (flR R), arC (ma 4) (τ 0) 4074 (bkF B)]) ∨ (0 ≤ (aShelve R z1 y1 x1).1 ∧ v = some (Value.int (iI (aShelve R z1 y1 x1).1)) ∧ M2 0 = 0 ∧ M2 5 = (rmB (M 5) B R).1 ∧ w = [moO ma M2, arC (ma 1) (τ 0) 291 (flR (aShelve R z1 y1 x1).2), arC (ma 4) (τ 0) 4074 (bkF (rmB (M 5) B R).2)]))) (inW ([moO ma M, arC (ma 1) (τ 0) 291 (flR R), arC (ma 4) (τ 0) 4074 (bkF B)]))) 0 0 (inW ([moO ma M, arC (ma 1) (τ 0) 291 (flR R), arC (ma 4) (τ 0) 4074 (bkF B)])) := by
  have hB := hI.hB
  have hr0 := hI.r
  have hd0 := hI.d
  have hs0 := hI.s
  refine rwMet (cc := cX10_shelve) (maxL := 4) (ret := (some .int)) (lv := [(0, Value.ref (ma 0)), (1, Value.int (iI z1)), (2, Value.int (iI y1)), (3, Value.int (iI x1))]) (by decide) rfl (Nat.le_of_ble_eq_true rfl) rfl ?_
  intro p e s m below meth c hx hb hr hml hts hown hlocks A H hP hD hS hK ls hl
  refine lv_aload_n hx hb dX10_shelve_0 rfl (lv_at hl 0 rfl) ?_
  refine lv_aload_n hx hb dX10_shelve_1 rfl (lv_at hl 0 rfl) ?_
  refine va_get (D := g) (ci := 10) (v := Value.ref (ma 1)) (C := RX10) (T := TX10) (N := 18) hx hb hts in_X10_shelve_X10 hown hK.1 hP 0 (rfl) rfl 1 (by decide) (hts _ (List.mem_of_getElem? (i := 1) rfl) : (Cond.fieldLink RX10 7 "CordSealsModel" "now" "[I").before _ s = true) (fun _ h9 => h9) rfl dX10_shelve_2 ?_
  refine lv_iload_n hx hb dX10_shelve_5 rfl (lv_at hl 1 rfl) ?_
  refine ro_S (As := [Value.ref (ma 1), Value.int (iI z1)]) (rest := [Value.ref (ma 0)]) (v := some (Value.int (iI (zB (decide (0 ≤ z1 ∧ z1 ≤ R 10 0 - 1)))))) ⟨hx, hb, hml, hown, hts⟩ (c_X10_hasSeal l g τ (ma 1) R hI z1 ⟨by omega, by omega⟩) gX10_shelve_X10_hasSeal cd_X10_hasSeal rfl ⟨rfl, rfl⟩ ⟨Nat.le_of_ble_eq_true rfl, Nat.le_of_ble_eq_true rfl⟩ hK (cut_P (is := [1]) hP rfl) rfl hl rfl (Nat.le_of_ble_eq_true rfl) dX10_shelve_6 ⟨Nat.le_of_ble_eq_true rfl, Nat.le_of_ble_eq_true rfl⟩ ?_
  refine tl_some ?_
  refine zb_if_eq (tgt := 19) hx hb dX10_shelve_9 (by decide) (fun c_1 => ?_) (fun c_1 => ?_)
  · have cd_c_1 := of_decide_eq_false c_1
    refine lv_iconst (v := iI 1) hx hb dX10_shelve_19 (by decide) ?_
    refine lv_goto (tgt := 63) hx hb dX10_shelve_20 (by decide) ?_
    refine rw_V (As := [Value.int (iI 1)]) (rest := []) ⟨hx, hb, hml, hown, hts⟩ (c_X10_refused l g τ ma M 1 ⟨by decide, by decide⟩) gX10_shelve_X10_refused cd_X10_refused rfl rfl ⟨rfl, rfl⟩ ⟨Nat.le_of_ble_eq_true rfl, Nat.le_of_ble_eq_true rfl⟩ hK hP hD hS [0] (rfl) (by decide) 0 rfl rfl rfl rfl hl rfl (Nat.le_of_ble_eq_true rfl) dX10_shelve_63 ⟨Nat.le_of_ble_eq_true rfl, Nat.le_of_ble_eq_true rfl⟩ (fun v w h => by rw [h.2]; rfl) (fun v w1 H locs hZ hP hD hS => ?_)
    obtain ⟨rfl, rfl⟩ := hZ
    have hP : va_P g vwCl ([moO ma (updZ M 0 1), arC (ma 1) (τ 0) 291 (flR R), arC (ma 4) (τ 0) 4074 (bkF B)]) H := hP
    have hD : va_D A ([moO ma (updZ M 0 1), arC (ma 1) (τ 0) 291 (flR R), arC (ma 4) (τ 0) 4074 (bkF B)]) := hD
    refine tl_some ?_
    refine cv_i (y := iI 1) (congrArg iI (if_neg (by decide))) ?_
    refine zi_if_eq (tgt := 71) hx hb ⟨by decide, by decide⟩ dX10_shelve_66 (by decide) (fun c_2 => ?_) (fun c_2 => ?_)
    · exact absurd c_2 (by decide)
    refine lv_iconst (v := iI 0) hx hb dX10_shelve_69 (by decide) ?_
    exact rw_iret hx hb hr hlocks hP hS (by first | (have ha : aShelve R z1 y1 x1 = (-2, R) := (by unfold aShelve; rw [if_pos (by omega)]); exact ⟨(updZ M 0 1), by show M 9 = M 9; first | rfl | omega, Or.inl ⟨by rw [ha]; show (-2 : Int) < 0; decide, rfl, by rw [ha]; show 1 = _; rfl, by show M 5 = M 5; first | rfl | omega, rfl⟩⟩)) dX10_shelve_70
  · have cd_c_1 := of_decide_eq_true c_1
    refine lv_iload_n hx hb dX10_shelve_12 rfl (lv_at hl 2 rfl) ?_
    refine ro_S (As := [Value.int (iI y1)]) (rest := [Value.ref (ma 0)]) (v := some (Value.int (iI (zB (decide (0 ≤ y1 ∧ y1 ≤ 5)))))) ⟨hx, hb, hml, hown, hts⟩ (c_X10_isShelf l g τ y1 ⟨by omega, by omega⟩) gX10_shelve_X10_isShelf cd_X10_isShelf rfl ⟨rfl, rfl⟩ ⟨Nat.le_of_ble_eq_true rfl, Nat.le_of_ble_eq_true rfl⟩ hK (fun _ _ h => by cases h) rfl hl rfl (Nat.le_of_ble_eq_true rfl) dX10_shelve_13 ⟨Nat.le_of_ble_eq_true rfl, Nat.le_of_ble_eq_true rfl⟩ ?_
    refine tl_some ?_
    refine zb_if_ne (tgt := 23) hx hb dX10_shelve_16 (by decide) (fun c_3 => ?_) (fun c_3 => ?_)
    · have cd_c_3 := of_decide_eq_true c_3
      obtain ⟨s1, rfl⟩ := Int.eq_ofNat_of_zero_le (show 0 ≤ z1 by omega)
      obtain ⟨h1, rfl⟩ := Int.eq_ofNat_of_zero_le (show 0 ≤ y1 by omega)
      refine lv_iload_n hx hb dX10_shelve_23 rfl (lv_at hl 3 rfl) ?_
      refine lv_i2l (v := (iI x1).toInt64) hx hb dX10_shelve_24 rfl ?_
      refine cv_l (y := iL x1) (i2l_iL ⟨by omega, by omega⟩) ?_
      refine lv_lconst (v := 0) hx hb dX10_shelve_25 (by decide) ?_
      refine cv_l (y := iL 0) (by decide) ?_
      refine lv_aload_n hx hb dX10_shelve_26 rfl (lv_at hl 0 rfl) ?_
      refine va_get (D := g) (ci := 10) (v := Value.ref (ma 1)) (C := RX10) (T := TX10) (N := 18) hx hb hts in_X10_shelve_X10 hown hK.1 hP 0 (rfl) rfl 1 (by decide) (hts _ (List.mem_of_getElem? (i := 1) rfl) : (Cond.fieldLink RX10 7 "CordSealsModel" "now" "[I").before _ s = true) (fun _ h9 => h9) rfl dX10_shelve_27 ?_
      refine lv_iload_n hx hb dX10_shelve_30 rfl (lv_at hl 1 rfl) ?_
      refine lv_iload_n hx hb dX10_shelve_31 rfl (lv_at hl 2 rfl) ?_
      refine ro_S (As := [Value.ref (ma 1), Value.int (iI (s1 : Int)), Value.int (iI (h1 : Int))]) (rest := [Value.long (iL 0), Value.long (iL x1), Value.ref (ma 0)]) (v := some (Value.int (iI (oth R h1 (s1 : Int))))) ⟨hx, hb, hml, hown, hts⟩ (e_X10_others l g τ (ma 1) R hI (s1 : Int) ⟨by omega, by omega⟩ h1 (by omega)) gX10_shelve_X10_others cd_X10_others rfl ⟨rfl, rfl⟩ ⟨Nat.le_of_ble_eq_true rfl, Nat.le_of_ble_eq_true rfl⟩ hK (cut_P (is := [1]) hP rfl) rfl hl rfl (Nat.le_of_ble_eq_true rfl) dX10_shelve_32 ⟨Nat.le_of_ble_eq_true rfl, Nat.le_of_ble_eq_true rfl⟩ ?_
      refine tl_some ?_
      have hoth := oth_r hI h1 (by omega) (s1 : Int)
      refine lv_i2l (v := (iI (oth R h1 (s1 : Int))).toInt64) hx hb dX10_shelve_35 rfl ?_
      refine cv_l (y := iL (oth R h1 (s1 : Int))) (i2l_iL ⟨by omega, by omega⟩) ?_
      refine ro_S (As := [Value.long (iL x1), Value.long (iL 0), Value.long (iL (oth R h1 (s1 : Int)))]) (rest := [Value.ref (ma 0)]) (v := some (Value.int (iI (zB (decide (0 ≤ x1 ∧ x1 ≤ (oth R h1 (s1 : Int)))))))) ⟨hx, hb, hml, hown, hts⟩ (c_X10_in l g τ x1 0 (oth R h1 (s1 : Int)) ⟨by omega, by omega⟩ ⟨by omega, by omega⟩ ⟨by omega, by omega⟩) gX10_shelve_X10_in cd_X10_in rfl ⟨rfl, rfl⟩ ⟨Nat.le_of_ble_eq_true rfl, Nat.le_of_ble_eq_true rfl⟩ hK (fun _ _ h => by cases h) rfl hl rfl (Nat.le_of_ble_eq_true rfl) dX10_shelve_36 ⟨Nat.le_of_ble_eq_true rfl, Nat.le_of_ble_eq_true rfl⟩ ?_
      refine tl_some ?_
      refine zb_if_ne (tgt := 46) hx hb dX10_shelve_39 (by decide) (fun c_4 => ?_) (fun c_4 => ?_)
      · have cd_c_4 := of_decide_eq_true c_4
        obtain ⟨k1, rfl⟩ := Int.eq_ofNat_of_zero_le (show 0 ≤ x1 by omega)
        refine lv_aload_n hx hb dX10_shelve_46 rfl (lv_at hl 0 rfl) ?_
        refine va_get (D := g) (ci := 10) (v := Value.ref (ma 1)) (C := RX10) (T := TX10) (N := 18) hx hb hts in_X10_shelve_X10 hown hK.1 hP 0 (rfl) rfl 1 (by decide) (hts _ (List.mem_of_getElem? (i := 1) rfl) : (Cond.fieldLink RX10 7 "CordSealsModel" "now" "[I").before _ s = true) (fun _ h9 => h9) rfl dX10_shelve_47 ?_
        refine lv_iload_n hx hb dX10_shelve_50 rfl (lv_at hl 1 rfl) ?_
        refine lv_iload_n hx hb dX10_shelve_51 rfl (lv_at hl 2 rfl) ?_
        refine ro_S (As := [Value.ref (ma 1), Value.int (iI (s1 : Int)), Value.int (iI (h1 : Int))]) (rest := [Value.ref (ma 0)]) (v := some (Value.int (iI (zB (decide (oth R h1 (s1 : Int) < 6) && !othH R h1 s1))))) ⟨hx, hb, hml, hown, hts⟩ (e_X10_canShelve l g τ (ma 1) R hI s1 (by omega) h1 (by omega)) gX10_shelve_X10_canShelve cd_X10_canShelve rfl ⟨rfl, rfl⟩ ⟨Nat.le_of_ble_eq_true rfl, Nat.le_of_ble_eq_true rfl⟩ hK (cut_P (is := [1]) hP rfl) rfl hl rfl (Nat.le_of_ble_eq_true rfl) dX10_shelve_52 ⟨Nat.le_of_ble_eq_true rfl, Nat.le_of_ble_eq_true rfl⟩ ?_
        refine tl_some ?_
        refine zb_if_ne (tgt := 62) hx hb dX10_shelve_55 (by decide) (fun c_5 => ?_) (fun c_5 => ?_)
        · have _ := c_5
          have hcc := cP_t c_5
          refine lv_iconst (v := iI 0) hx hb dX10_shelve_62 (by decide) ?_
          refine rw_V (As := [Value.int (iI 0)]) (rest := []) ⟨hx, hb, hml, hown, hts⟩ (c_X10_refused l g τ ma M 0 ⟨by decide, by decide⟩) gX10_shelve_X10_refused cd_X10_refused rfl rfl ⟨rfl, rfl⟩ ⟨Nat.le_of_ble_eq_true rfl, Nat.le_of_ble_eq_true rfl⟩ hK hP hD hS [0] (rfl) (by decide) 0 rfl rfl rfl rfl hl rfl (Nat.le_of_ble_eq_true rfl) dX10_shelve_63 ⟨Nat.le_of_ble_eq_true rfl, Nat.le_of_ble_eq_true rfl⟩ (fun v w h => by rw [h.2]; rfl) (fun v w1 H locs hZ hP hD hS => ?_)
          obtain ⟨rfl, rfl⟩ := hZ
          have hP : va_P g vwCl ([moO ma (updZ M 0 0), arC (ma 1) (τ 0) 291 (flR R), arC (ma 4) (τ 0) 4074 (bkF B)]) H := hP
          have hD : va_D A ([moO ma (updZ M 0 0), arC (ma 1) (τ 0) 291 (flR R), arC (ma 4) (τ 0) 4074 (bkF B)]) := hD
          refine tl_some ?_
          refine cv_i (y := iI 0) (congrArg iI (if_pos rfl)) ?_
          refine zi_if_eq (tgt := 71) hx hb ⟨by decide, by decide⟩ dX10_shelve_66 (by decide) (fun c_6 => ?_) (fun c_6 => ?_)
          · skip
            have hir : inR (rmR R (s1 : Int)) h1 k1 (s1 : Int) 18 h1 = oth R h1 (s1 : Int) + 1 := by rw [in18_own, rm_18 hI (by omega)]
            refine lv_aload_n hx hb dX10_shelve_71 rfl (lv_at hl 0 rfl) ?_
            refine rw_V (As := []) (rest := []) ⟨hx, hb, hml, hown, hts⟩ (c_X10_remember l g τ ma (updZ M 0 0) R hI B (by show 0 ≤ M 5 ∧ M 5 ≤ 14; omega)) gX10_shelve_X10_remember cd_X10_remember rfl rfl ⟨rfl, rfl⟩ ⟨Nat.le_of_ble_eq_true rfl, Nat.le_of_ble_eq_true rfl⟩ hK hP hD hS [0, 1, 2] (rfl) (by decide) 0 rfl rfl rfl rfl hl rfl (Nat.le_of_ble_eq_true rfl) dX10_shelve_72 ⟨Nat.le_of_ble_eq_true rfl, Nat.le_of_ble_eq_true rfl⟩ (fun v w h => by obtain ⟨-, M9, -, -, -, rfl⟩ := h; rfl) (fun v w1 H locs hZ hP hD hS => ?_)
            obtain ⟨rfl, M_7, hfM_7_0, hfM_7_5, hfM_7_9, rfl⟩ := hZ
            have hP : va_P g vwCl ([moO ma M_7, arC (ma 1) (τ 0) 291 (flR R), arC (ma 4) (τ 0) 4074 (bkF (rmB (M 5) B R).2)]) H := hP
            have hD : va_D A ([moO ma M_7, arC (ma 1) (τ 0) 291 (flR R), arC (ma 4) (τ 0) 4074 (bkF (rmB (M 5) B R).2)]) := hD
            have hfM_7_0 : M_7 0 = 0 := hfM_7_0
            have hfM_7_5 : M_7 5 = (rmB (M 5) B R).1 := hfM_7_5
            have hfM_7_9 : M_7 9 = M 9 := hfM_7_9
            refine tl_none ?_
            refine lv_aload_n hx hb dX10_shelve_75 rfl (lv_at hl 0 rfl) ?_
            refine va_get (D := g) (ci := 10) (v := Value.ref (ma 1)) (C := RX10) (T := TX10) (N := 18) hx hb hts in_X10_shelve_X10 hown hK.1 hP 0 (rfl) rfl 1 (by decide) (hts _ (List.mem_of_getElem? (i := 1) rfl) : (Cond.fieldLink RX10 7 "CordSealsModel" "now" "[I").before _ s = true) (fun _ h9 => h9) rfl dX10_shelve_76 ?_
            refine lv_iload_n hx hb dX10_shelve_79 rfl (lv_at hl 1 rfl) ?_
            refine lv_iload_n hx hb dX10_shelve_80 rfl (lv_at hl 2 rfl) ?_
            refine lv_iload_n hx hb dX10_shelve_81 rfl (lv_at hl 3 rfl) ?_
            refine rw_S (As := [Value.ref (ma 1), Value.int (iI (s1 : Int)), Value.int (iI (h1 : Int)), Value.int (iI (k1 : Int))]) (rest := []) ⟨hx, hb, hml, hown, hts⟩ (c_X10_goShelve l g τ (ma 1) R hI s1 (by omega) h1 (by omega) k1 (by omega) (by omega)) gX10_shelve_X10_goShelve cd_X10_goShelve rfl ⟨rfl, rfl⟩ ⟨Nat.le_of_ble_eq_true rfl, Nat.le_of_ble_eq_true rfl⟩ hK hP hD hS [1] (rfl) (by decide) rfl hl rfl (Nat.le_of_ble_eq_true rfl) dX10_shelve_82 ⟨Nat.le_of_ble_eq_true rfl, Nat.le_of_ble_eq_true rfl⟩ (fun v w h => by rw [h.2]; exact f_fl _ _ _ _) (fun v w1 H locs hZ hP hD hS => ?_)
            obtain ⟨rfl, rfl⟩ := hZ
            have hP : va_P g vwCl ([moO ma M_7, arC (ma 1) (τ 0) 291 (flR (inR (rmR R (s1 : Int)) h1 k1 (s1 : Int))), arC (ma 4) (τ 0) 4074 (bkF (rmB (M 5) B R).2)]) H := hP
            have hD : va_D A ([moO ma M_7, arC (ma 1) (τ 0) 291 (flR (inR (rmR R (s1 : Int)) h1 k1 (s1 : Int))), arC (ma 4) (τ 0) 4074 (bkF (rmB (M 5) B R).2)]) := hD
            refine tl_some ?_
            exact rw_iret hx hb hr hlocks hP hS (by first | (have ha : aShelve R (s1 : Int) (h1 : Int) (k1 : Int) = (inR (rmR R (s1 : Int)) h1 k1 (s1 : Int) 18 h1, inR (rmR R (s1 : Int)) h1 k1 (s1 : Int)) := (by unfold aShelve; rw [if_neg (by omega)]; try simp only [Int.toNat_natCast]; rw [if_neg (by omega), if_neg hcc]); exact ⟨M_7, by show M_7 9 = M 9; first | rfl | omega, Or.inr ⟨by rw [ha]; show (0 : Int) ≤ inR (rmR R (s1 : Int)) h1 k1 (s1 : Int) 18 h1; omega, by rw [ha], by show M_7 0 = 0; first | rfl | omega, by show M_7 5 = _; first | rfl | omega, by rw [ha]⟩⟩)) dX10_shelve_85
          · exact absurd c_6 (by decide)
        · have _ := c_5
          have hcc := cP_f c_5
          refine lv_iconst (v := iI 3) hx hb dX10_shelve_58 (by decide) ?_
          refine lv_goto (tgt := 63) hx hb dX10_shelve_59 (by decide) ?_
          refine rw_V (As := [Value.int (iI 3)]) (rest := []) ⟨hx, hb, hml, hown, hts⟩ (c_X10_refused l g τ ma M 3 ⟨by decide, by decide⟩) gX10_shelve_X10_refused cd_X10_refused rfl rfl ⟨rfl, rfl⟩ ⟨Nat.le_of_ble_eq_true rfl, Nat.le_of_ble_eq_true rfl⟩ hK hP hD hS [0] (rfl) (by decide) 0 rfl rfl rfl rfl hl rfl (Nat.le_of_ble_eq_true rfl) dX10_shelve_63 ⟨Nat.le_of_ble_eq_true rfl, Nat.le_of_ble_eq_true rfl⟩ (fun v w h => by rw [h.2]; rfl) (fun v w1 H locs hZ hP hD hS => ?_)
          obtain ⟨rfl, rfl⟩ := hZ
          have hP : va_P g vwCl ([moO ma (updZ M 0 3), arC (ma 1) (τ 0) 291 (flR R), arC (ma 4) (τ 0) 4074 (bkF B)]) H := hP
          have hD : va_D A ([moO ma (updZ M 0 3), arC (ma 1) (τ 0) 291 (flR R), arC (ma 4) (τ 0) 4074 (bkF B)]) := hD
          refine tl_some ?_
          refine cv_i (y := iI 1) (congrArg iI (if_neg (by decide))) ?_
          refine zi_if_eq (tgt := 71) hx hb ⟨by decide, by decide⟩ dX10_shelve_66 (by decide) (fun c_8 => ?_) (fun c_8 => ?_)
          · exact absurd c_8 (by decide)
          refine lv_iconst (v := iI 0) hx hb dX10_shelve_69 (by decide) ?_
          exact rw_iret hx hb hr hlocks hP hS (by first | (have ha : aShelve R (s1 : Int) (h1 : Int) (k1 : Int) = (-4, R) := (by unfold aShelve; rw [if_neg (by omega)]; try simp only [Int.toNat_natCast]; rw [if_neg (by omega), if_pos hcc]); exact ⟨(updZ M 0 3), by show M 9 = M 9; first | rfl | omega, Or.inl ⟨by rw [ha]; show (-4 : Int) < 0; decide, rfl, by rw [ha]; show 3 = _; rfl, by show M 5 = M 5; first | rfl | omega, rfl⟩⟩)) dX10_shelve_70
      · have cd_c_4 := of_decide_eq_false c_4
        refine lv_iconst (v := iI 2) hx hb dX10_shelve_42 (by decide) ?_
        refine lv_goto (tgt := 63) hx hb dX10_shelve_43 (by decide) ?_
        refine rw_V (As := [Value.int (iI 2)]) (rest := []) ⟨hx, hb, hml, hown, hts⟩ (c_X10_refused l g τ ma M 2 ⟨by decide, by decide⟩) gX10_shelve_X10_refused cd_X10_refused rfl rfl ⟨rfl, rfl⟩ ⟨Nat.le_of_ble_eq_true rfl, Nat.le_of_ble_eq_true rfl⟩ hK hP hD hS [0] (rfl) (by decide) 0 rfl rfl rfl rfl hl rfl (Nat.le_of_ble_eq_true rfl) dX10_shelve_63 ⟨Nat.le_of_ble_eq_true rfl, Nat.le_of_ble_eq_true rfl⟩ (fun v w h => by rw [h.2]; rfl) (fun v w1 H locs hZ hP hD hS => ?_)
        obtain ⟨rfl, rfl⟩ := hZ
        have hP : va_P g vwCl ([moO ma (updZ M 0 2), arC (ma 1) (τ 0) 291 (flR R), arC (ma 4) (τ 0) 4074 (bkF B)]) H := hP
        have hD : va_D A ([moO ma (updZ M 0 2), arC (ma 1) (τ 0) 291 (flR R), arC (ma 4) (τ 0) 4074 (bkF B)]) := hD
        refine tl_some ?_
        refine cv_i (y := iI 1) (congrArg iI (if_neg (by decide))) ?_
        refine zi_if_eq (tgt := 71) hx hb ⟨by decide, by decide⟩ dX10_shelve_66 (by decide) (fun c_9 => ?_) (fun c_9 => ?_)
        · exact absurd c_9 (by decide)
        refine lv_iconst (v := iI 0) hx hb dX10_shelve_69 (by decide) ?_
        exact rw_iret hx hb hr hlocks hP hS (by first | (have ha : aShelve R (s1 : Int) (h1 : Int) x1 = (-3, R) := (by unfold aShelve; rw [if_neg (by omega)]; try simp only [Int.toNat_natCast]; rw [if_pos (by omega)]); exact ⟨(updZ M 0 2), by show M 9 = M 9; first | rfl | omega, Or.inl ⟨by rw [ha]; show (-3 : Int) < 0; decide, rfl, by rw [ha]; show 2 = _; rfl, by show M 5 = M 5; first | rfl | omega, rfl⟩⟩)) dX10_shelve_70
    · have cd_c_3 := of_decide_eq_false c_3
      refine lv_iconst (v := iI 1) hx hb dX10_shelve_19 (by decide) ?_
      refine lv_goto (tgt := 63) hx hb dX10_shelve_20 (by decide) ?_
      refine rw_V (As := [Value.int (iI 1)]) (rest := []) ⟨hx, hb, hml, hown, hts⟩ (c_X10_refused l g τ ma M 1 ⟨by decide, by decide⟩) gX10_shelve_X10_refused cd_X10_refused rfl rfl ⟨rfl, rfl⟩ ⟨Nat.le_of_ble_eq_true rfl, Nat.le_of_ble_eq_true rfl⟩ hK hP hD hS [0] (rfl) (by decide) 0 rfl rfl rfl rfl hl rfl (Nat.le_of_ble_eq_true rfl) dX10_shelve_63 ⟨Nat.le_of_ble_eq_true rfl, Nat.le_of_ble_eq_true rfl⟩ (fun v w h => by rw [h.2]; rfl) (fun v w1 H locs hZ hP hD hS => ?_)
      obtain ⟨rfl, rfl⟩ := hZ
      have hP : va_P g vwCl ([moO ma (updZ M 0 1), arC (ma 1) (τ 0) 291 (flR R), arC (ma 4) (τ 0) 4074 (bkF B)]) H := hP
      have hD : va_D A ([moO ma (updZ M 0 1), arC (ma 1) (τ 0) 291 (flR R), arC (ma 4) (τ 0) 4074 (bkF B)]) := hD
      refine tl_some ?_
      refine cv_i (y := iI 1) (congrArg iI (if_neg (by decide))) ?_
      refine zi_if_eq (tgt := 71) hx hb ⟨by decide, by decide⟩ dX10_shelve_66 (by decide) (fun c_10 => ?_) (fun c_10 => ?_)
      · exact absurd c_10 (by decide)
      refine lv_iconst (v := iI 0) hx hb dX10_shelve_69 (by decide) ?_
      exact rw_iret hx hb hr hlocks hP hS (by first | (have ha : aShelve R z1 y1 x1 = (-2, R) := (by unfold aShelve; rw [if_pos (by omega)]); exact ⟨(updZ M 0 1), by show M 9 = M 9; first | rfl | omega, Or.inl ⟨by rw [ha]; show (-2 : Int) < 0; decide, rfl, by rw [ha]; show 1 = _; rfl, by show M 5 = M 5; first | rfl | omega, rfl⟩⟩)) dX10_shelve_70

theorem cd_X10_take : cd yX10_take 1 := by decide +kernel
theorem in_X10_take_X10 : ∀ w ∈ wsX100, w ∈ wsX10_take := by decide +kernel
set_option maxHeartbeats 2000000 in
set_option maxRecDepth 100000 in
theorem c_X10_take (l : Launch) (g : va_G) (τ : Nat → ClassId) (ma : Nat → Nat) (M : Nat → Int) (R : Nat → Nat → Int) (hI : SI R) (z1 : Int) (rz1 : -2147483648 ≤ z1 ∧ z1 < 2147483648) (B : Nat → Nat → Nat → Int) (hn5 : 0 ≤ M 5 ∧ M 5 ≤ 14)  : Met l yX10_take wsX10_take { frames := 3, cells := 0, slots := 0, locals := 71 } (va_Pc [Value.ref (ma 0), Value.int (iI z1)] (rwW g τ ([moO ma M, arC (ma 1) (τ 0) 291 (flR R), arC (ma 4) (τ 0) 4074 (bkF B)]))) (rwQ g (fun v w => ∃ M2 : Nat → Int, M2 9 = M 9 ∧ (((aTake R z1).1 < 0 ∧ v = some (Value.int (iI 0)) ∧ M2 0 = cd3 (aTake R z1).1 1 0 2 ∧ M2 5 = M 5 ∧ w = [moO ma M2, arC (ma 1) (τ 0) 291 (flR R), arC (ma 4) (τ 0) 4074 (bkF B)]) ∨ (0 ≤ (aTake R z1).1 ∧ v = some (Value.int (iI (aTake R z1).1)) ∧ M2 0 = 0 ∧ M2 5 = (rmB (M 5) B R).1 ∧ w = [moO ma M2, arC (ma 1) (τ 0) 291 (flR (aTake R z1).2), arC (ma 4) (τ 0) 4074 (bkF (rmB (M 5) B R).2)]))) (inW ([moO ma M, arC (ma 1) (τ 0) 291 (flR R), arC (ma 4) (τ 0) 4074 (bkF B)]))) 0 0 (inW ([moO ma M, arC (ma 1) (τ 0) 291 (flR R), arC (ma 4) (τ 0) 4074 (bkF B)])) := by
  have hB := hI.hB
  have hr0 := hI.r
  have hd0 := hI.d
  have hs0 := hI.s
  refine rwMet (cc := cX10_take) (maxL := 3) (ret := (some .int)) (lv := [(0, Value.ref (ma 0)), (1, Value.int (iI z1))]) (by decide) rfl (Nat.le_of_ble_eq_true rfl) rfl ?_
  intro p e s m below meth c hx hb hr hml hts hown hlocks A H hP hD hS hK ls hl
  refine lv_aload_n hx hb dX10_take_0 rfl (lv_at hl 0 rfl) ?_
  refine lv_aload_n hx hb dX10_take_1 rfl (lv_at hl 0 rfl) ?_
  refine va_get (D := g) (ci := 10) (v := Value.ref (ma 1)) (C := RX10) (T := TX10) (N := 18) hx hb hts in_X10_take_X10 hown hK.1 hP 0 (rfl) rfl 1 (by decide) (hts _ (List.mem_of_getElem? (i := 1) rfl) : (Cond.fieldLink RX10 7 "CordSealsModel" "now" "[I").before _ s = true) (fun _ h9 => h9) rfl dX10_take_2 ?_
  refine lv_iload_n hx hb dX10_take_5 rfl (lv_at hl 1 rfl) ?_
  refine ro_S (As := [Value.ref (ma 1), Value.int (iI z1)]) (rest := [Value.ref (ma 0)]) (v := some (Value.int (iI (zB (decide (0 ≤ z1 ∧ z1 ≤ R 10 0 - 1)))))) ⟨hx, hb, hml, hown, hts⟩ (c_X10_hasSeal l g τ (ma 1) R hI z1 ⟨by omega, by omega⟩) gX10_take_X10_hasSeal cd_X10_hasSeal rfl ⟨rfl, rfl⟩ ⟨Nat.le_of_ble_eq_true rfl, Nat.le_of_ble_eq_true rfl⟩ hK (cut_P (is := [1]) hP rfl) rfl hl rfl (Nat.le_of_ble_eq_true rfl) dX10_take_6 ⟨Nat.le_of_ble_eq_true rfl, Nat.le_of_ble_eq_true rfl⟩ ?_
  refine tl_some ?_
  refine zb_if_ne (tgt := 16) hx hb dX10_take_9 (by decide) (fun c_1 => ?_) (fun c_1 => ?_)
  · have cd_c_1 := of_decide_eq_true c_1
    refine lv_aload_n hx hb dX10_take_16 rfl (lv_at hl 0 rfl) ?_
    refine va_get (D := g) (ci := 10) (v := Value.ref (ma 1)) (C := RX10) (T := TX10) (N := 18) hx hb hts in_X10_take_X10 hown hK.1 hP 0 (rfl) rfl 1 (by decide) (hts _ (List.mem_of_getElem? (i := 1) rfl) : (Cond.fieldLink RX10 7 "CordSealsModel" "now" "[I").before _ s = true) (fun _ h9 => h9) rfl dX10_take_17 ?_
    refine lv_iload_n hx hb dX10_take_20 rfl (lv_at hl 1 rfl) ?_
    refine ro_S (As := [Value.ref (ma 1), Value.int (iI z1)]) (rest := [Value.ref (ma 0)]) (v := some (Value.int (iI (plI 6 (sOf R z1))))) ⟨hx, hb, hml, hown, hts⟩ (e_X10_shelfOf l g τ (ma 1) R hI z1 ⟨by omega, by omega⟩) gX10_take_X10_shelfOf cd_X10_shelfOf rfl ⟨rfl, rfl⟩ ⟨Nat.le_of_ble_eq_true rfl, Nat.le_of_ble_eq_true rfl⟩ hK (cut_P (is := [1]) hP rfl) rfl hl rfl (Nat.le_of_ble_eq_true rfl) dX10_take_21 ⟨Nat.le_of_ble_eq_true rfl, Nat.le_of_ble_eq_true rfl⟩ ?_
    refine tl_some ?_
    have := plI_r 6 (sOf R z1)
    have hsle : sOf R z1 ≤ 6 := fst_le _ _
    refine lv_iconst (v := iI (-1)) hx hb dX10_take_24 (by decide) ?_
    refine zi_icmp_ne (tgt := 32) hx hb ⟨by omega, by omega⟩ ⟨by decide, by decide⟩ dX10_take_25 (by decide) (fun c_2 => ?_) (fun c_2 => ?_)
    · have _ := c_2
      have h6 := plI_yes c_2
      refine lv_iconst (v := iI 0) hx hb dX10_take_32 (by decide) ?_
      refine rw_V (As := [Value.int (iI 0)]) (rest := []) ⟨hx, hb, hml, hown, hts⟩ (c_X10_refused l g τ ma M 0 ⟨by decide, by decide⟩) gX10_take_X10_refused cd_X10_refused rfl rfl ⟨rfl, rfl⟩ ⟨Nat.le_of_ble_eq_true rfl, Nat.le_of_ble_eq_true rfl⟩ hK hP hD hS [0] (rfl) (by decide) 0 rfl rfl rfl rfl hl rfl (Nat.le_of_ble_eq_true rfl) dX10_take_33 ⟨Nat.le_of_ble_eq_true rfl, Nat.le_of_ble_eq_true rfl⟩ (fun v w h => by rw [h.2]; rfl) (fun v w1 H locs hZ hP hD hS => ?_)
      obtain ⟨rfl, rfl⟩ := hZ
      have hP : va_P g vwCl ([moO ma (updZ M 0 0), arC (ma 1) (τ 0) 291 (flR R), arC (ma 4) (τ 0) 4074 (bkF B)]) H := hP
      have hD : va_D A ([moO ma (updZ M 0 0), arC (ma 1) (τ 0) 291 (flR R), arC (ma 4) (τ 0) 4074 (bkF B)]) := hD
      refine tl_some ?_
      refine cv_i (y := iI 0) (congrArg iI (if_pos rfl)) ?_
      refine zi_if_eq (tgt := 41) hx hb ⟨by decide, by decide⟩ dX10_take_36 (by decide) (fun c_3 => ?_) (fun c_3 => ?_)
      · skip
        refine lv_aload_n hx hb dX10_take_41 rfl (lv_at hl 0 rfl) ?_
        refine rw_V (As := []) (rest := []) ⟨hx, hb, hml, hown, hts⟩ (c_X10_remember l g τ ma (updZ M 0 0) R hI B (by show 0 ≤ M 5 ∧ M 5 ≤ 14; omega)) gX10_take_X10_remember cd_X10_remember rfl rfl ⟨rfl, rfl⟩ ⟨Nat.le_of_ble_eq_true rfl, Nat.le_of_ble_eq_true rfl⟩ hK hP hD hS [0, 1, 2] (rfl) (by decide) 0 rfl rfl rfl rfl hl rfl (Nat.le_of_ble_eq_true rfl) dX10_take_42 ⟨Nat.le_of_ble_eq_true rfl, Nat.le_of_ble_eq_true rfl⟩ (fun v w h => by obtain ⟨-, M9, -, -, -, rfl⟩ := h; rfl) (fun v w1 H locs hZ hP hD hS => ?_)
        obtain ⟨rfl, M_4, hfM_4_0, hfM_4_5, hfM_4_9, rfl⟩ := hZ
        have hP : va_P g vwCl ([moO ma M_4, arC (ma 1) (τ 0) 291 (flR R), arC (ma 4) (τ 0) 4074 (bkF (rmB (M 5) B R).2)]) H := hP
        have hD : va_D A ([moO ma M_4, arC (ma 1) (τ 0) 291 (flR R), arC (ma 4) (τ 0) 4074 (bkF (rmB (M 5) B R).2)]) := hD
        have hfM_4_0 : M_4 0 = 0 := hfM_4_0
        have hfM_4_5 : M_4 5 = (rmB (M 5) B R).1 := hfM_4_5
        have hfM_4_9 : M_4 9 = M 9 := hfM_4_9
        refine tl_none ?_
        refine lv_aload_n hx hb dX10_take_45 rfl (lv_at hl 0 rfl) ?_
        refine va_get (D := g) (ci := 10) (v := Value.ref (ma 1)) (C := RX10) (T := TX10) (N := 18) hx hb hts in_X10_take_X10 hown hK.1 hP 0 (rfl) rfl 1 (by decide) (hts _ (List.mem_of_getElem? (i := 1) rfl) : (Cond.fieldLink RX10 7 "CordSealsModel" "now" "[I").before _ s = true) (fun _ h9 => h9) rfl dX10_take_46 ?_
        refine lv_iload_n hx hb dX10_take_49 rfl (lv_at hl 1 rfl) ?_
        refine ro_S (As := [Value.ref (ma 1), Value.int (iI z1)]) (rest := []) (v := some (Value.int (iI (plI 6 (sOf R z1))))) ⟨hx, hb, hml, hown, hts⟩ (e_X10_shelfOf l g τ (ma 1) R hI z1 ⟨by omega, by omega⟩) gX10_take_X10_shelfOf cd_X10_shelfOf rfl ⟨rfl, rfl⟩ ⟨Nat.le_of_ble_eq_true rfl, Nat.le_of_ble_eq_true rfl⟩ hK (cut_P (is := [1]) hP rfl) rfl hl rfl (Nat.le_of_ble_eq_true rfl) dX10_take_50 ⟨Nat.le_of_ble_eq_true rfl, Nat.le_of_ble_eq_true rfl⟩ ?_
        refine tl_some ?_
        have := plI_r 6 (sOf R z1)
        have hsle : sOf R z1 ≤ 6 := fst_le _ _
        refine cv_i (y := iI ((sOf R z1 : Nat) : Int)) (congrArg iI (plI_lt h6)) ?_
        refine lv_istore_n (lv' := [(2, Value.int (iI ((sOf R z1 : Nat) : Int))), (0, Value.ref (ma 0)), (1, Value.int (iI z1))]) hx hb dX10_take_53 rfl hl (by decide) rfl (fun ls hl => ?_)
        refine lv_aload_n hx hb dX10_take_54 rfl (lv_at hl 1 rfl) ?_
        refine va_get (D := g) (ci := 10) (v := Value.ref (ma 1)) (C := RX10) (T := TX10) (N := 18) hx hb hts in_X10_take_X10 hown hK.1 hP 0 (rfl) rfl 1 (by decide) (hts _ (List.mem_of_getElem? (i := 1) rfl) : (Cond.fieldLink RX10 7 "CordSealsModel" "now" "[I").before _ s = true) (fun _ h9 => h9) rfl dX10_take_55 ?_
        refine lv_iload_n hx hb dX10_take_58 rfl (lv_at hl 2 rfl) ?_
        refine rw_S (As := [Value.ref (ma 1), Value.int (iI z1)]) (rest := []) ⟨hx, hb, hml, hown, hts⟩ (c_X10_goTake l g τ (ma 1) R hI z1 ⟨by omega, by omega⟩) gX10_take_X10_goTake cd_X10_goTake rfl ⟨rfl, rfl⟩ ⟨Nat.le_of_ble_eq_true rfl, Nat.le_of_ble_eq_true rfl⟩ hK hP hD hS [1] (rfl) (by decide) rfl hl rfl (Nat.le_of_ble_eq_true rfl) dX10_take_59 ⟨Nat.le_of_ble_eq_true rfl, Nat.le_of_ble_eq_true rfl⟩ (fun v w h => by rw [h.2]; exact f_fl _ _ _ _) (fun v w1 H locs hZ hP hD hS => ?_)
        obtain ⟨rfl, rfl⟩ := hZ
        have hP : va_P g vwCl ([moO ma M_4, arC (ma 1) (τ 0) 291 (flR (rmR R z1)), arC (ma 4) (τ 0) 4074 (bkF (rmB (M 5) B R).2)]) H := hP
        have hD : va_D A ([moO ma M_4, arC (ma 1) (τ 0) 291 (flR (rmR R z1)), arC (ma 4) (τ 0) 4074 (bkF (rmB (M 5) B R).2)]) := hD
        refine tl_none ?_
        refine lv_iload_n hx hb dX10_take_62 rfl (lv_at hl 0 rfl) ?_
        exact rw_iret hx hb hr hlocks hP hS (by first | (have ha : aTake R z1 = (((sOf R z1 : Nat) : Int), rmR R z1) := (by unfold aTake; rw [if_neg (by omega), if_neg (by omega)]); exact ⟨M_4, by show M_4 9 = M 9; first | rfl | omega, Or.inr ⟨by rw [ha]; show (0 : Int) ≤ ((sOf R z1 : Nat) : Int); omega, by rw [ha], by show M_4 0 = 0; first | rfl | omega, by show M_4 5 = _; first | rfl | omega, by rw [ha]⟩⟩)) dX10_take_63
      · exact absurd c_3 (by decide)
    · have _ := c_2
      have h6 := plI_no c_2
      refine lv_iconst (v := iI 2) hx hb dX10_take_28 (by decide) ?_
      refine lv_goto (tgt := 33) hx hb dX10_take_29 (by decide) ?_
      refine rw_V (As := [Value.int (iI 2)]) (rest := []) ⟨hx, hb, hml, hown, hts⟩ (c_X10_refused l g τ ma M 2 ⟨by decide, by decide⟩) gX10_take_X10_refused cd_X10_refused rfl rfl ⟨rfl, rfl⟩ ⟨Nat.le_of_ble_eq_true rfl, Nat.le_of_ble_eq_true rfl⟩ hK hP hD hS [0] (rfl) (by decide) 0 rfl rfl rfl rfl hl rfl (Nat.le_of_ble_eq_true rfl) dX10_take_33 ⟨Nat.le_of_ble_eq_true rfl, Nat.le_of_ble_eq_true rfl⟩ (fun v w h => by rw [h.2]; rfl) (fun v w1 H locs hZ hP hD hS => ?_)
      obtain ⟨rfl, rfl⟩ := hZ
      have hP : va_P g vwCl ([moO ma (updZ M 0 2), arC (ma 1) (τ 0) 291 (flR R), arC (ma 4) (τ 0) 4074 (bkF B)]) H := hP
      have hD : va_D A ([moO ma (updZ M 0 2), arC (ma 1) (τ 0) 291 (flR R), arC (ma 4) (τ 0) 4074 (bkF B)]) := hD
      refine tl_some ?_
      refine cv_i (y := iI 1) (congrArg iI (if_neg (by decide))) ?_
      refine zi_if_eq (tgt := 41) hx hb ⟨by decide, by decide⟩ dX10_take_36 (by decide) (fun c_5 => ?_) (fun c_5 => ?_)
      · exact absurd c_5 (by decide)
      refine lv_iconst (v := iI 0) hx hb dX10_take_39 (by decide) ?_
      exact rw_iret hx hb hr hlocks hP hS (by first | (have ha : aTake R z1 = (-4, R) := (by unfold aTake; rw [if_neg (by omega), if_pos (by omega)]); exact ⟨(updZ M 0 2), by show M 9 = M 9; first | rfl | omega, Or.inl ⟨by rw [ha]; show (-4 : Int) < 0; decide, rfl, by rw [ha]; show 2 = _; rfl, by show M 5 = M 5; first | rfl | omega, rfl⟩⟩)) dX10_take_40
  · have cd_c_1 := of_decide_eq_false c_1
    refine lv_iconst (v := iI 1) hx hb dX10_take_12 (by decide) ?_
    refine lv_goto (tgt := 33) hx hb dX10_take_13 (by decide) ?_
    refine rw_V (As := [Value.int (iI 1)]) (rest := []) ⟨hx, hb, hml, hown, hts⟩ (c_X10_refused l g τ ma M 1 ⟨by decide, by decide⟩) gX10_take_X10_refused cd_X10_refused rfl rfl ⟨rfl, rfl⟩ ⟨Nat.le_of_ble_eq_true rfl, Nat.le_of_ble_eq_true rfl⟩ hK hP hD hS [0] (rfl) (by decide) 0 rfl rfl rfl rfl hl rfl (Nat.le_of_ble_eq_true rfl) dX10_take_33 ⟨Nat.le_of_ble_eq_true rfl, Nat.le_of_ble_eq_true rfl⟩ (fun v w h => by rw [h.2]; rfl) (fun v w1 H locs hZ hP hD hS => ?_)
    obtain ⟨rfl, rfl⟩ := hZ
    have hP : va_P g vwCl ([moO ma (updZ M 0 1), arC (ma 1) (τ 0) 291 (flR R), arC (ma 4) (τ 0) 4074 (bkF B)]) H := hP
    have hD : va_D A ([moO ma (updZ M 0 1), arC (ma 1) (τ 0) 291 (flR R), arC (ma 4) (τ 0) 4074 (bkF B)]) := hD
    refine tl_some ?_
    refine cv_i (y := iI 1) (congrArg iI (if_neg (by decide))) ?_
    refine zi_if_eq (tgt := 41) hx hb ⟨by decide, by decide⟩ dX10_take_36 (by decide) (fun c_6 => ?_) (fun c_6 => ?_)
    · exact absurd c_6 (by decide)
    refine lv_iconst (v := iI 0) hx hb dX10_take_39 (by decide) ?_
    exact rw_iret hx hb hr hlocks hP hS (by first | (have ha : aTake R z1 = (-2, R) := (by unfold aTake; rw [if_pos (by omega)]); exact ⟨(updZ M 0 1), by show M 9 = M 9; first | rfl | omega, Or.inl ⟨by rw [ha]; show (-2 : Int) < 0; decide, rfl, by rw [ha]; show 1 = _; rfl, by show M 5 = M 5; first | rfl | omega, rfl⟩⟩)) dX10_take_40

theorem cd_X10_set : cd yX10_set 2 := by decide +kernel
theorem in_X10_set_X10 : ∀ w ∈ wsX100, w ∈ wsX10_set := by decide +kernel
set_option maxHeartbeats 2000000 in
set_option maxRecDepth 100000 in
theorem c_X10_set (l : Launch) (g : va_G) (τ : Nat → ClassId) (ma : Nat → Nat) (M : Nat → Int) (R : Nat → Nat → Int) (hI : SI R) (z1 : Int) (rz1 : -2147483648 ≤ z1 ∧ z1 < 2147483648) (y1 : Int) (ry1 : -2147483648 ≤ y1 ∧ y1 < 2147483648) (B : Nat → Nat → Nat → Int) (hn5 : 0 ≤ M 5 ∧ M 5 ≤ 14)  : Met l yX10_set wsX10_set { frames := 1, cells := 0, slots := 0, locals := 25 } (va_Pc [Value.ref (ma 0), Value.int (iI z1), Value.int (iI y1)] (rwW g τ ([moO ma M, arC (ma 1) (τ 0) 291 (flR R), arC (ma 4) (τ 0) 4074 (bkF B)]))) (rwQ g (fun v w => ∃ M2 : Nat → Int, M2 9 = M 9 ∧ (((aSet R z1 y1).1 < 0 ∧ v = some (Value.int (iI 0)) ∧ M2 0 = cd3 (aSet R z1 y1).1 0 1 0 ∧ M2 5 = M 5 ∧ w = [moO ma M2, arC (ma 1) (τ 0) 291 (flR R), arC (ma 4) (τ 0) 4074 (bkF B)]) ∨ (0 ≤ (aSet R z1 y1).1 ∧ v = some (Value.int (iI (aSet R z1 y1).1)) ∧ M2 0 = 0 ∧ M2 5 = (rmB (M 5) B R).1 ∧ w = [moO ma M2, arC (ma 1) (τ 0) 291 (flR (aSet R z1 y1).2), arC (ma 4) (τ 0) 4074 (bkF (rmB (M 5) B R).2)]))) (inW ([moO ma M, arC (ma 1) (τ 0) 291 (flR R), arC (ma 4) (τ 0) 4074 (bkF B)]))) 0 0 (inW ([moO ma M, arC (ma 1) (τ 0) 291 (flR R), arC (ma 4) (τ 0) 4074 (bkF B)])) := by
  have hB := hI.hB
  have hr0 := hI.r
  have hd0 := hI.d
  have hs0 := hI.s
  refine rwMet (cc := cX10_set) (maxL := 3) (ret := (some .int)) (lv := [(0, Value.ref (ma 0)), (1, Value.int (iI z1)), (2, Value.int (iI y1))]) (by decide) rfl (Nat.le_of_ble_eq_true rfl) rfl ?_
  intro p e s m below meth c hx hb hr hml hts hown hlocks A H hP hD hS hK ls hl
  refine lv_aload_n hx hb dX10_set_0 rfl (lv_at hl 0 rfl) ?_
  refine lv_iload_n hx hb dX10_set_1 rfl (lv_at hl 1 rfl) ?_
  refine lv_i2l (v := (iI z1).toInt64) hx hb dX10_set_2 rfl ?_
  refine cv_l (y := iL z1) (i2l_iL ⟨by omega, by omega⟩) ?_
  refine lv_lconst (v := 0) hx hb dX10_set_3 (by decide) ?_
  refine cv_l (y := iL 0) (by decide) ?_
  refine lv_lconst (v := 1) hx hb dX10_set_4 (by decide) ?_
  refine cv_l (y := iL 1) (by decide) ?_
  refine ro_S (As := [Value.long (iL z1), Value.long (iL 0), Value.long (iL 1)]) (rest := [Value.ref (ma 0)]) (v := some (Value.int (iI (zB (decide (0 ≤ z1 ∧ z1 ≤ 1)))))) ⟨hx, hb, hml, hown, hts⟩ (c_X10_in l g τ z1 0 1 ⟨by omega, by omega⟩ ⟨by omega, by omega⟩ ⟨by omega, by omega⟩) gX10_set_X10_in cd_X10_in rfl ⟨rfl, rfl⟩ ⟨Nat.le_of_ble_eq_true rfl, Nat.le_of_ble_eq_true rfl⟩ hK (fun _ _ h => by cases h) rfl hl rfl (Nat.le_of_ble_eq_true rfl) dX10_set_5 ⟨Nat.le_of_ble_eq_true rfl, Nat.le_of_ble_eq_true rfl⟩ ?_
  refine tl_some ?_
  refine zb_if_eq (tgt := 27) hx hb dX10_set_8 (by decide) (fun c_1 => ?_) (fun c_1 => ?_)
  · have cd_c_1 := of_decide_eq_false c_1
    refine lv_iconst (v := iI 1) hx hb dX10_set_27 (by decide) ?_
    refine rw_V (As := [Value.int (iI 1)]) (rest := []) ⟨hx, hb, hml, hown, hts⟩ (c_X10_refused l g τ ma M 1 ⟨by decide, by decide⟩) gX10_set_X10_refused cd_X10_refused rfl rfl ⟨rfl, rfl⟩ ⟨Nat.le_of_ble_eq_true rfl, Nat.le_of_ble_eq_true rfl⟩ hK hP hD hS [0] (rfl) (by decide) 0 rfl rfl rfl rfl hl rfl (Nat.le_of_ble_eq_true rfl) dX10_set_28 ⟨Nat.le_of_ble_eq_true rfl, Nat.le_of_ble_eq_true rfl⟩ (fun v w h => by rw [h.2]; rfl) (fun v w1 H locs hZ hP hD hS => ?_)
    obtain ⟨rfl, rfl⟩ := hZ
    have hP : va_P g vwCl ([moO ma (updZ M 0 1), arC (ma 1) (τ 0) 291 (flR R), arC (ma 4) (τ 0) 4074 (bkF B)]) H := hP
    have hD : va_D A ([moO ma (updZ M 0 1), arC (ma 1) (τ 0) 291 (flR R), arC (ma 4) (τ 0) 4074 (bkF B)]) := hD
    refine tl_some ?_
    refine cv_i (y := iI 1) (congrArg iI (if_neg (by decide))) ?_
    refine zi_if_eq (tgt := 36) hx hb ⟨by decide, by decide⟩ dX10_set_31 (by decide) (fun c_2 => ?_) (fun c_2 => ?_)
    · exact absurd c_2 (by decide)
    refine lv_iconst (v := iI 0) hx hb dX10_set_34 (by decide) ?_
    exact rw_iret hx hb hr hlocks hP hS (by first | (have ha : aSet R z1 y1 = (-3, R) := (by unfold aSet; rw [if_pos (by omega)]); exact ⟨(updZ M 0 1), by show M 9 = M 9; first | rfl | omega, Or.inl ⟨by rw [ha]; show (-3 : Int) < 0; decide, rfl, by rw [ha]; show 1 = _; rfl, by show M 5 = M 5; first | rfl | omega, rfl⟩⟩)) dX10_set_35
  · have cd_c_1 := of_decide_eq_true c_1
    refine lv_iload_n hx hb dX10_set_11 rfl (lv_at hl 2 rfl) ?_
    refine lv_i2l (v := (iI y1).toInt64) hx hb dX10_set_12 rfl ?_
    refine cv_l (y := iL y1) (i2l_iL ⟨by omega, by omega⟩) ?_
    refine lv_lconst (v := 0) hx hb dX10_set_13 (by decide) ?_
    refine cv_l (y := iL 0) (by decide) ?_
    refine lv_ldc2 (v := 99) hx hb hown (hts _ (List.mem_of_getElem? (i := 1) rfl)) dX10_set_14 ?_
    refine cv_l (y := iL 99) (by decide) ?_
    refine ro_S (As := [Value.long (iL y1), Value.long (iL 0), Value.long (iL 99)]) (rest := [Value.ref (ma 0)]) (v := some (Value.int (iI (zB (decide (0 ≤ y1 ∧ y1 ≤ 99)))))) ⟨hx, hb, hml, hown, hts⟩ (c_X10_in l g τ y1 0 99 ⟨by omega, by omega⟩ ⟨by omega, by omega⟩ ⟨by omega, by omega⟩) gX10_set_X10_in cd_X10_in rfl ⟨rfl, rfl⟩ ⟨Nat.le_of_ble_eq_true rfl, Nat.le_of_ble_eq_true rfl⟩ hK (fun _ _ h => by cases h) rfl hl rfl (Nat.le_of_ble_eq_true rfl) dX10_set_17 ⟨Nat.le_of_ble_eq_true rfl, Nat.le_of_ble_eq_true rfl⟩ ?_
    refine tl_some ?_
    refine zb_if_eq (tgt := 27) hx hb dX10_set_20 (by decide) (fun c_3 => ?_) (fun c_3 => ?_)
    · have cd_c_3 := of_decide_eq_false c_3
      refine lv_iconst (v := iI 1) hx hb dX10_set_27 (by decide) ?_
      refine rw_V (As := [Value.int (iI 1)]) (rest := []) ⟨hx, hb, hml, hown, hts⟩ (c_X10_refused l g τ ma M 1 ⟨by decide, by decide⟩) gX10_set_X10_refused cd_X10_refused rfl rfl ⟨rfl, rfl⟩ ⟨Nat.le_of_ble_eq_true rfl, Nat.le_of_ble_eq_true rfl⟩ hK hP hD hS [0] (rfl) (by decide) 0 rfl rfl rfl rfl hl rfl (Nat.le_of_ble_eq_true rfl) dX10_set_28 ⟨Nat.le_of_ble_eq_true rfl, Nat.le_of_ble_eq_true rfl⟩ (fun v w h => by rw [h.2]; rfl) (fun v w1 H locs hZ hP hD hS => ?_)
      obtain ⟨rfl, rfl⟩ := hZ
      have hP : va_P g vwCl ([moO ma (updZ M 0 1), arC (ma 1) (τ 0) 291 (flR R), arC (ma 4) (τ 0) 4074 (bkF B)]) H := hP
      have hD : va_D A ([moO ma (updZ M 0 1), arC (ma 1) (τ 0) 291 (flR R), arC (ma 4) (τ 0) 4074 (bkF B)]) := hD
      refine tl_some ?_
      refine cv_i (y := iI 1) (congrArg iI (if_neg (by decide))) ?_
      refine zi_if_eq (tgt := 36) hx hb ⟨by decide, by decide⟩ dX10_set_31 (by decide) (fun c_4 => ?_) (fun c_4 => ?_)
      · exact absurd c_4 (by decide)
      refine lv_iconst (v := iI 0) hx hb dX10_set_34 (by decide) ?_
      exact rw_iret hx hb hr hlocks hP hS (by first | (have ha : aSet R z1 y1 = (-3, R) := (by unfold aSet; rw [if_pos (by omega)]); exact ⟨(updZ M 0 1), by show M 9 = M 9; first | rfl | omega, Or.inl ⟨by rw [ha]; show (-3 : Int) < 0; decide, rfl, by rw [ha]; show 1 = _; rfl, by show M 5 = M 5; first | rfl | omega, rfl⟩⟩)) dX10_set_35
    · have cd_c_3 := of_decide_eq_true c_3
      refine lv_iconst (v := iI 0) hx hb dX10_set_23 (by decide) ?_
      refine lv_goto (tgt := 28) hx hb dX10_set_24 (by decide) ?_
      refine rw_V (As := [Value.int (iI 0)]) (rest := []) ⟨hx, hb, hml, hown, hts⟩ (c_X10_refused l g τ ma M 0 ⟨by decide, by decide⟩) gX10_set_X10_refused cd_X10_refused rfl rfl ⟨rfl, rfl⟩ ⟨Nat.le_of_ble_eq_true rfl, Nat.le_of_ble_eq_true rfl⟩ hK hP hD hS [0] (rfl) (by decide) 0 rfl rfl rfl rfl hl rfl (Nat.le_of_ble_eq_true rfl) dX10_set_28 ⟨Nat.le_of_ble_eq_true rfl, Nat.le_of_ble_eq_true rfl⟩ (fun v w h => by rw [h.2]; rfl) (fun v w1 H locs hZ hP hD hS => ?_)
      obtain ⟨rfl, rfl⟩ := hZ
      have hP : va_P g vwCl ([moO ma (updZ M 0 0), arC (ma 1) (τ 0) 291 (flR R), arC (ma 4) (τ 0) 4074 (bkF B)]) H := hP
      have hD : va_D A ([moO ma (updZ M 0 0), arC (ma 1) (τ 0) 291 (flR R), arC (ma 4) (τ 0) 4074 (bkF B)]) := hD
      refine tl_some ?_
      refine cv_i (y := iI 0) (congrArg iI (if_pos rfl)) ?_
      refine zi_if_eq (tgt := 36) hx hb ⟨by decide, by decide⟩ dX10_set_31 (by decide) (fun c_5 => ?_) (fun c_5 => ?_)
      · skip
        obtain ⟨a1, rfl⟩ := Int.eq_ofNat_of_zero_le (show 0 ≤ z1 by omega)
        have hw0 := hI.w
        have hwa : 0 ≤ R 20 a1 := by (have h2 : a1 = 0 ∨ a1 = 1 := by omega); rcases h2 with rfl | rfl <;> omega
        refine lv_aload_n hx hb dX10_set_36 rfl (lv_at hl 0 rfl) ?_
        refine rw_V (As := []) (rest := []) ⟨hx, hb, hml, hown, hts⟩ (c_X10_remember l g τ ma (updZ M 0 0) R hI B (by show 0 ≤ M 5 ∧ M 5 ≤ 14; omega)) gX10_set_X10_remember cd_X10_remember rfl rfl ⟨rfl, rfl⟩ ⟨Nat.le_of_ble_eq_true rfl, Nat.le_of_ble_eq_true rfl⟩ hK hP hD hS [0, 1, 2] (rfl) (by decide) 0 rfl rfl rfl rfl hl rfl (Nat.le_of_ble_eq_true rfl) dX10_set_37 ⟨Nat.le_of_ble_eq_true rfl, Nat.le_of_ble_eq_true rfl⟩ (fun v w h => by obtain ⟨-, M9, -, -, -, rfl⟩ := h; rfl) (fun v w1 H locs hZ hP hD hS => ?_)
        obtain ⟨rfl, M_6, hfM_6_0, hfM_6_5, hfM_6_9, rfl⟩ := hZ
        have hP : va_P g vwCl ([moO ma M_6, arC (ma 1) (τ 0) 291 (flR R), arC (ma 4) (τ 0) 4074 (bkF (rmB (M 5) B R).2)]) H := hP
        have hD : va_D A ([moO ma M_6, arC (ma 1) (τ 0) 291 (flR R), arC (ma 4) (τ 0) 4074 (bkF (rmB (M 5) B R).2)]) := hD
        have hfM_6_0 : M_6 0 = 0 := hfM_6_0
        have hfM_6_5 : M_6 5 = (rmB (M 5) B R).1 := hfM_6_5
        have hfM_6_9 : M_6 9 = M 9 := hfM_6_9
        refine tl_none ?_
        refine lv_aload_n hx hb dX10_set_40 rfl (lv_at hl 0 rfl) ?_
        refine va_get (D := g) (ci := 10) (v := Value.ref (ma 1)) (C := RX10) (T := TX10) (N := 18) hx hb hts in_X10_set_X10 hown hK.1 hP 0 (rfl) rfl 1 (by decide) (hts _ (List.mem_of_getElem? (i := 2) rfl) : (Cond.fieldLink RX10 7 "CordSealsModel" "now" "[I").before _ s = true) (fun _ h9 => h9) rfl dX10_set_41 ?_
        refine lv_iload_n hx hb dX10_set_44 rfl (lv_at hl 1 rfl) ?_
        refine lv_iload_n hx hb dX10_set_45 rfl (lv_at hl 2 rfl) ?_
        refine rw_S (As := [Value.ref (ma 1), Value.int (iI (a1 : Int)), Value.int (iI y1)]) (rest := []) ⟨hx, hb, hml, hown, hts⟩ (c_X10_goSet l g τ (ma 1) R hI a1 (by omega) y1 ⟨by omega, by omega⟩) gX10_set_X10_goSet cd_X10_goSet rfl ⟨rfl, rfl⟩ ⟨Nat.le_of_ble_eq_true rfl, Nat.le_of_ble_eq_true rfl⟩ hK hP hD hS [1] (rfl) (by decide) rfl hl rfl (Nat.le_of_ble_eq_true rfl) dX10_set_46 ⟨Nat.le_of_ble_eq_true rfl, Nat.le_of_ble_eq_true rfl⟩ (fun v w h => by rw [h.2]; exact f_fl _ _ _ _) (fun v w1 H locs hZ hP hD hS => ?_)
        obtain ⟨rfl, rfl⟩ := hZ
        have hP : va_P g vwCl ([moO ma M_6, arC (ma 1) (τ 0) 291 (flR (u2 R 20 (updZ (R 20) a1 y1))), arC (ma 4) (τ 0) 4074 (bkF (rmB (M 5) B R).2)]) H := hP
        have hD : va_D A ([moO ma M_6, arC (ma 1) (τ 0) 291 (flR (u2 R 20 (updZ (R 20) a1 y1))), arC (ma 4) (τ 0) 4074 (bkF (rmB (M 5) B R).2)]) := hD
        refine tl_some ?_
        exact rw_iret hx hb hr hlocks hP hS (by first | (have ha : aSet R (a1 : Int) y1 = (R 20 a1, u2 R 20 (updZ (R 20) a1 y1)) := (by unfold aSet; rw [if_neg (by omega)]; try simp only [Int.toNat_natCast]); exact ⟨M_6, by show M_6 9 = M 9; first | rfl | omega, Or.inr ⟨by rw [ha]; show (0 : Int) ≤ R 20 a1; omega, by rw [ha], by show M_6 0 = 0; first | rfl | omega, by show M_6 5 = _; first | rfl | omega, by rw [ha]⟩⟩)) dX10_set_49
      · exact absurd c_5 (by decide)

theorem cd_X10_undo : cd yX10_undo 0 := by decide +kernel
theorem in_X10_undo_X10 : ∀ w ∈ wsX100, w ∈ wsX10_undo := by decide +kernel
set_option maxHeartbeats 1000000 in
set_option maxRecDepth 100000 in
theorem c_X10_undo (l : Launch) (g : va_G) (τ : Nat → ClassId) (ma : Nat → Nat) (M : Nat → Int) (R : Nat → Nat → Int) (hI : SI R) (B : Nat → Nat → Nat → Int) (hn5 : 0 ≤ M 5 ∧ M 5 ≤ 14)  : Met l yX10_undo wsX10_undo { frames := 1, cells := 0, slots := 0, locals := 21 } (va_Pc [Value.ref (ma 0)] (rwW g τ ([moO ma M, arC (ma 1) (τ 0) 291 (flR R), arC (ma 4) (τ 0) 4074 (bkF B)]))) (rwQ g (fun v w => ∃ M2 : Nat → Int, M2 9 = M 9 ∧ ((M 5 = 0 ∧ v = some (Value.int (iI 0)) ∧ M2 0 = 1 ∧ M2 5 = M 5 ∧ w = [moO ma M2, arC (ma 1) (τ 0) 291 (flR R), arC (ma 4) (τ 0) 4074 (bkF B)]) ∨ (0 < M 5 ∧ v = some (Value.int (iI (M 5 - 1))) ∧ M2 0 = 0 ∧ M2 5 = M 5 - 1 ∧ w = [moO ma M2, arC (ma 1) (τ 0) 291 (flR (B (M 5 - 1).toNat)), arC (ma 4) (τ 0) 4074 (bkF B)]))) (inW ([moO ma M, arC (ma 1) (τ 0) 291 (flR R), arC (ma 4) (τ 0) 4074 (bkF B)]))) 0 0 (inW ([moO ma M, arC (ma 1) (τ 0) 291 (flR R), arC (ma 4) (τ 0) 4074 (bkF B)])) := by
  have hB := hI.hB
  have hr0 := hI.r
  have hd0 := hI.d
  have hs0 := hI.s
  refine rwMet (cc := cX10_undo) (maxL := 2) (ret := (some .int)) (lv := [(0, Value.ref (ma 0))]) (by decide) rfl (Nat.le_of_ble_eq_true rfl) rfl ?_
  intro p e s m below meth c hx hb hr hml hts hown hlocks A H hP hD hS hK ls hl
  refine lv_aload_n hx hb dX10_undo_0 rfl (lv_at hl 0 rfl) ?_
  refine lv_aload_n hx hb dX10_undo_1 rfl (lv_at hl 0 rfl) ?_
  refine va_get (D := g) (ci := 10) (v := Value.int (iI (M 5))) (C := RX10) (T := TX10) (N := 18) hx hb hts in_X10_undo_X10 hown hK.1 hP 0 (rfl) rfl 5 (by decide) (hts _ (List.mem_of_getElem? (i := 1) rfl) : (Cond.fieldLink RX10 142 "CordSealsModel" "states" "I").before _ s = true) (fun _ h9 => h9) rfl dX10_undo_2 ?_
  refine zi_if_ne (tgt := 12) hx hb ⟨by omega, by omega⟩ dX10_undo_5 (by decide) (fun c_1 => ?_) (fun c_1 => ?_)
  · have _ := c_1
    refine lv_iconst (v := iI 0) hx hb dX10_undo_12 (by decide) ?_
    refine rw_V (As := [Value.int (iI 0)]) (rest := []) ⟨hx, hb, hml, hown, hts⟩ (c_X10_refused l g τ ma M 0 ⟨by decide, by decide⟩) gX10_undo_X10_refused cd_X10_refused rfl rfl ⟨rfl, rfl⟩ ⟨Nat.le_of_ble_eq_true rfl, Nat.le_of_ble_eq_true rfl⟩ hK hP hD hS [0] (rfl) (by decide) 0 rfl rfl rfl rfl hl rfl (Nat.le_of_ble_eq_true rfl) dX10_undo_13 ⟨Nat.le_of_ble_eq_true rfl, Nat.le_of_ble_eq_true rfl⟩ (fun v w h => by rw [h.2]; rfl) (fun v w1 H locs hZ hP hD hS => ?_)
    obtain ⟨rfl, rfl⟩ := hZ
    have hP : va_P g vwCl ([moO ma (updZ M 0 0), arC (ma 1) (τ 0) 291 (flR R), arC (ma 4) (τ 0) 4074 (bkF B)]) H := hP
    have hD : va_D A ([moO ma (updZ M 0 0), arC (ma 1) (τ 0) 291 (flR R), arC (ma 4) (τ 0) 4074 (bkF B)]) := hD
    refine tl_some ?_
    refine cv_i (y := iI 0) (congrArg iI (if_pos rfl)) ?_
    refine zi_if_eq (tgt := 21) hx hb ⟨by decide, by decide⟩ dX10_undo_16 (by decide) (fun c_2 => ?_) (fun c_2 => ?_)
    · skip
      refine lv_aload_n hx hb dX10_undo_21 rfl (lv_at hl 0 rfl) ?_
      refine lv_dup hx hb dX10_undo_22 rfl ?_
      refine va_get (D := g) (ci := 10) (v := Value.int (iI (M 5))) (C := RX10) (T := TX10) (N := 18) hx hb hts in_X10_undo_X10 hown hK.1 hP 0 (rfl) rfl 5 (by decide) (hts _ (List.mem_of_getElem? (i := 1) rfl) : (Cond.fieldLink RX10 142 "CordSealsModel" "states" "I").before _ s = true) (fun _ h9 => h9) rfl dX10_undo_23 ?_
      refine lv_iconst (v := iI 1) hx hb dX10_undo_26 (by decide) ?_
      refine zi_sub hx hb dX10_undo_27 ?_
      refine va_put (D := g) (ci := 10) (v := Value.int (iI ((M 5) - 1))) (ty := .int) (C := RX10) (T := TX10) (N := 18) hx hb hts in_X10_undo_X10 tyX10 tyX10_ok nmX10 hown hK.1 hP hD hS 0 (rfl) rfl 5 (by decide) (hts _ (List.mem_of_getElem? (i := 1) rfl) : (Cond.fieldLink RX10 142 "CordSealsModel" "states" "I").before _ s = true) (fun _ h9 => h9) rfl (by decide +kernel) rfl rfl (Nat.le_of_ble_eq_true rfl) dX10_undo_28 (fun H locs hP hD hS => ?_)
      have hP : va_P g vwCl ([moO ma (updZ (updZ M 0 0) 5 ((M 5) - 1)), arC (ma 1) (τ 0) 291 (flR R), arC (ma 4) (τ 0) 4074 (bkF B)]) H := hP
      have hD : va_D A ([moO ma (updZ (updZ M 0 0) 5 ((M 5) - 1)), arC (ma 1) (τ 0) 291 (flR R), arC (ma 4) (τ 0) 4074 (bkF B)]) := hD
      refine lv_iconst (v := iI 0) hx hb dX10_undo_31 (by decide) ?_
      refine lv_istore_n (lv' := [(1, Value.int (iI 0)), (0, Value.ref (ma 0))]) hx hb dX10_undo_32 rfl hl (by decide) rfl (fun ls hl => ?_)
      have hP : va_P g vwCl ([moO ma (updZ (updZ M 0 0) 5 (M 5 - 1)), arC (ma 1) (τ 0) 291 (unF B (M 5 - 1).toNat R 0), arC (ma 4) (τ 0) 4074 (bkF B)]) H := by first | exact hP | (rw [unF_0]; exact hP)
      have hD : va_D A ([moO ma (updZ (updZ M 0 0) 5 (M 5 - 1)), arC (ma 1) (τ 0) 291 (unF B (M 5 - 1).toNat R 0), arC (ma 4) (τ 0) 4074 (bkF B)]) := by first | exact hD | (rw [unF_0]; exact hD)
      refine lp_upW (fun i => [(1, Value.int (iI (i : Int))), (0, Value.ref (ma 0))]) (fun i => [moO ma (updZ (updZ M 0 0) 5 (M 5 - 1)), arC (ma 1) (τ 0) 291 (unF B (M 5 - 1).toNat R i), arC (ma 4) (τ 0) 4074 (bkF B)]) (fun i => True) (291) (0) (by omega) hP hD hS (by first | trivial | (intro j hj; omega)) (lv_eq (lv_sub hl [0, 1] rfl) (by show [(1, Value.int (iI 0)), (0, Value.ref (ma 0))] = [(1, Value.int (iI 0)), (0, Value.ref (ma 0))]; rfl)) (fun i h0_i hi_i hI_i ih_33 H locs hP hD hS ls hl => ?_)
      refine lv_iload_n hx hb dX10_undo_33 rfl (lv_at hl 0 rfl) ?_
      refine lv_sipush (v := iI 291) hx hb dX10_undo_34 (by decide) ?_
      refine zi_icmp_ge (tgt := 67) hx hb ⟨by omega, by omega⟩ ⟨by decide, by decide⟩ dX10_undo_37 (by decide) (fun c_3 => ?_) (fun c_3 => ?_)
      · have _ := c_3
        have h0_i : i = 291 := by omega
        subst h0_i
        have hP : va_P g vwCl [moO ma (updZ (updZ M 0 0) 5 (M 5 - 1)), arC (ma 1) (τ 0) 291 (flR (B (M 5 - 1).toNat)), arC (ma 4) (τ 0) 4074 (bkF B)] H := ar_P hP (q := 1) rfl (unF_e B _ R) rfl
        refine lv_aload_n hx hb dX10_undo_67 rfl (lv_at hl 1 rfl) ?_
        refine va_get (D := g) (ci := 10) (v := Value.int (iI (M 5 - 1))) (C := RX10) (T := TX10) (N := 18) hx hb hts in_X10_undo_X10 hown hK.1 hP 0 (rfl) rfl 5 (by decide) (hts _ (List.mem_of_getElem? (i := 1) rfl) : (Cond.fieldLink RX10 142 "CordSealsModel" "states" "I").before _ s = true) (fun _ h9 => h9) rfl dX10_undo_68 ?_
        exact rw_iret hx hb hr hlocks hP hS (⟨(updZ (updZ M 0 0) 5 (M 5 - 1)), rfl, Or.inr ⟨by omega, rfl, rfl, rfl, rfl⟩⟩) dX10_undo_71
      · have _ := c_3
        have hl_i : i < 291 := by omega
        refine lv_aload_n hx hb dX10_undo_40 rfl (lv_at hl 1 rfl) ?_
        refine va_get (D := g) (ci := 10) (v := Value.ref (ma 1)) (C := RX10) (T := TX10) (N := 18) hx hb hts in_X10_undo_X10 hown hK.1 hP 0 (rfl) rfl 1 (by decide) (hts _ (List.mem_of_getElem? (i := 2) rfl) : (Cond.fieldLink RX10 7 "CordSealsModel" "now" "[I").before _ s = true) (fun _ h9 => h9) rfl dX10_undo_41 ?_
        refine lv_iload_n hx hb dX10_undo_44 rfl (lv_at hl 0 rfl) ?_
        refine lv_aload_n hx hb dX10_undo_45 rfl (lv_at hl 1 rfl) ?_
        refine va_get (D := g) (ci := 10) (v := Value.ref (ma 4)) (C := RX10) (T := TX10) (N := 18) hx hb hts in_X10_undo_X10 hown hK.1 hP 0 (rfl) rfl 4 (by decide) (hts _ (List.mem_of_getElem? (i := 3) rfl) : (Cond.fieldLink RX10 19 "CordSealsModel" "book" "[I").before _ s = true) (fun _ h9 => h9) rfl dX10_undo_46 ?_
        refine lv_sipush (v := iI 291) hx hb dX10_undo_49 (by decide) ?_
        refine lv_aload_n hx hb dX10_undo_52 rfl (lv_at hl 1 rfl) ?_
        refine va_get (D := g) (ci := 10) (v := Value.int (iI (M 5 - 1))) (C := RX10) (T := TX10) (N := 18) hx hb hts in_X10_undo_X10 hown hK.1 hP 0 (rfl) rfl 5 (by decide) (hts _ (List.mem_of_getElem? (i := 1) rfl) : (Cond.fieldLink RX10 142 "CordSealsModel" "states" "I").before _ s = true) (fun _ h9 => h9) rfl dX10_undo_53 ?_
        refine zi_mul hx hb dX10_undo_56 ?_
        refine lv_iload_n hx hb dX10_undo_57 rfl (lv_at hl 0 rfl) ?_
        refine zi_add hx hb dX10_undo_58 ?_
        refine cv_i (y := iI ((291 * (M 5 - 1).toNat + i : Nat) : Int)) (congrArg iI (by omega)) ?_
        refine zi_ald hx hb hK hP 2 (f := (bkF B)) (rfl) (291 * (M 5 - 1).toNat + i) (rfl) (by omega) (by decide) dX10_undo_59 ?_
        refine zi_ast hx hb hK hP hD hS 1 (f := (unF B (M 5 - 1).toNat R i)) (rfl) (i) (rfl) (by omega) (by decide) dX10_undo_60 (wo := [moO ma (updZ (updZ M 0 0) 5 (M 5 - 1)), arC (ma 1) (τ 0) 291 (updZ (unF B (M 5 - 1).toNat R i) i (bkF B (291 * (M 5 - 1).toNat + i))), arC (ma 4) (τ 0) 4074 (bkF B)]) rfl (fun H locs hP hD hS => ?_)
        refine zi_inc (v := ((i + 1 : Nat) : Int)) (lv' := [(1, Value.int (iI ((i + 1 : Nat) : Int))), (0, Value.ref (ma 0))]) hx hb dX10_undo_61 hl (k := 0) rfl (by omega) (by decide) rfl (fun ls hl => ?_)
        refine lv_goto (tgt := 33) hx hb dX10_undo_64 (by decide) ?_
        have hb_4 : (((i + 1) : Nat) : Int) = ((i + 1 : Nat) : Int) := by first | rfl | omega | (simp [c_1, c_3]; done)
        have hw_5 : [moO ma (updZ (updZ M 0 0) 5 (M 5 - 1)), arC (ma 1) (τ 0) 291 (updZ (unF B (M 5 - 1).toNat R i) i (bkF B (291 * (M 5 - 1).toNat + i))), arC (ma 4) (τ 0) 4074 (bkF B)] = [moO ma (updZ (updZ M 0 0) 5 (M 5 - 1)), arC (ma 1) (τ 0) 291 (unF B (M 5 - 1).toNat R (i + 1)), arC (ma 4) (τ 0) 4074 (bkF B)] := by rw [unF_s]
        rw [hw_5] at hP hD
        exact ih_33 hl_i (trivial) _ _ _ hP hD hS (lv_eq (lv_sub hl [0, 1] rfl) (by show [(1, Value.int (iI (((i + 1) : Nat) : Int))), (0, Value.ref (ma 0))] = [(1, Value.int (iI ((i + 1 : Nat) : Int))), (0, Value.ref (ma 0))]; rw [hb_4]))
    · exact absurd c_2 (by decide)
  · have _ := c_1
    refine lv_iconst (v := iI 1) hx hb dX10_undo_8 (by decide) ?_
    refine lv_goto (tgt := 13) hx hb dX10_undo_9 (by decide) ?_
    refine rw_V (As := [Value.int (iI 1)]) (rest := []) ⟨hx, hb, hml, hown, hts⟩ (c_X10_refused l g τ ma M 1 ⟨by decide, by decide⟩) gX10_undo_X10_refused cd_X10_refused rfl rfl ⟨rfl, rfl⟩ ⟨Nat.le_of_ble_eq_true rfl, Nat.le_of_ble_eq_true rfl⟩ hK hP hD hS [0] (rfl) (by decide) 0 rfl rfl rfl rfl hl rfl (Nat.le_of_ble_eq_true rfl) dX10_undo_13 ⟨Nat.le_of_ble_eq_true rfl, Nat.le_of_ble_eq_true rfl⟩ (fun v w h => by rw [h.2]; rfl) (fun v w1 H locs hZ hP hD hS => ?_)
    obtain ⟨rfl, rfl⟩ := hZ
    have hP : va_P g vwCl ([moO ma (updZ M 0 1), arC (ma 1) (τ 0) 291 (flR R), arC (ma 4) (τ 0) 4074 (bkF B)]) H := hP
    have hD : va_D A ([moO ma (updZ M 0 1), arC (ma 1) (τ 0) 291 (flR R), arC (ma 4) (τ 0) 4074 (bkF B)]) := hD
    refine tl_some ?_
    refine cv_i (y := iI 1) (congrArg iI (if_neg (by decide))) ?_
    refine zi_if_eq (tgt := 21) hx hb ⟨by decide, by decide⟩ dX10_undo_16 (by decide) (fun c_6 => ?_) (fun c_6 => ?_)
    · exact absurd c_6 (by decide)
    refine lv_iconst (v := iI 0) hx hb dX10_undo_19 (by decide) ?_
    exact rw_iret hx hb hr hlocks hP hS (⟨(updZ M 0 1), rfl, Or.inl ⟨by omega, rfl, rfl, rfl, rfl⟩⟩) dX10_undo_20

theorem cd_X10_save : cd yX10_save 1 := by decide +kernel
theorem in_X10_save_X10 : ∀ w ∈ wsX100, w ∈ wsX10_save := by decide +kernel
set_option maxHeartbeats 1000000 in
set_option maxRecDepth 100000 in
theorem c_X10_save (l : Launch) (g : va_G) (τ : Nat → ClassId) (ma : Nat → Nat) (M : Nat → Int) (R : Nat → Nat → Int) (hI : SI R) (z1 : Int) (rz1 : -2147483648 ≤ z1 ∧ z1 < 2147483648) (K : Nat → Nat → Nat → Int) (ik : Nat → Int)  : Met l yX10_save wsX10_save { frames := 1, cells := 0, slots := 0, locals := 25 } (va_Pc [Value.ref (ma 0), Value.int (iI z1)] (rwW g τ ([moO ma M, arC (ma 1) (τ 0) 291 (flR R), arC (ma 6) (τ 0) 582 (bkF K), arC (ma 7) (τ 1) 2 ik]))) (rwQ g (fun v w => ∃ M2 : Nat → Int, M2 5 = M 5 ∧ M2 9 = M 9 ∧ ((¬ (0 ≤ z1 ∧ z1 ≤ 1) ∧ v = some (Value.int (iI 0)) ∧ M2 0 = 1 ∧ w = [moO ma M2, arC (ma 1) (τ 0) 291 (flR R), arC (ma 6) (τ 0) 582 (bkF K), arC (ma 7) (τ 1) 2 ik]) ∨ ((0 ≤ z1 ∧ z1 ≤ 1) ∧ v = some (Value.int (iI (R 10 0))) ∧ M2 0 = 0 ∧ w = [moO ma M2, arC (ma 1) (τ 0) 291 (flR R), arC (ma 6) (τ 0) 582 (bkF (upB K z1.toNat R)), arC (ma 7) (τ 1) 2 (updZ ik z1.toNat 1)]))) (inW ([moO ma M, arC (ma 1) (τ 0) 291 (flR R), arC (ma 6) (τ 0) 582 (bkF K), arC (ma 7) (τ 1) 2 ik]))) 0 0 (inW ([moO ma M, arC (ma 1) (τ 0) 291 (flR R), arC (ma 6) (τ 0) 582 (bkF K), arC (ma 7) (τ 1) 2 ik])) := by
  have hB := hI.hB
  have hr0 := hI.r
  have hd0 := hI.d
  have hs0 := hI.s
  refine rwMet (cc := cX10_save) (maxL := 3) (ret := (some .int)) (lv := [(0, Value.ref (ma 0)), (1, Value.int (iI z1))]) (by decide) rfl (Nat.le_of_ble_eq_true rfl) rfl ?_
  intro p e s m below meth c hx hb hr hml hts hown hlocks A H hP hD hS hK ls hl
  refine lv_aload_n hx hb dX10_save_0 rfl (lv_at hl 0 rfl) ?_
  refine lv_iload_n hx hb dX10_save_1 rfl (lv_at hl 1 rfl) ?_
  refine lv_i2l (v := (iI z1).toInt64) hx hb dX10_save_2 rfl ?_
  refine cv_l (y := iL z1) (i2l_iL ⟨by omega, by omega⟩) ?_
  refine lv_lconst (v := 0) hx hb dX10_save_3 (by decide) ?_
  refine cv_l (y := iL 0) (by decide) ?_
  refine lv_lconst (v := 1) hx hb dX10_save_4 (by decide) ?_
  refine cv_l (y := iL 1) (by decide) ?_
  refine ro_S (As := [Value.long (iL z1), Value.long (iL 0), Value.long (iL 1)]) (rest := [Value.ref (ma 0)]) (v := some (Value.int (iI (zB (decide (0 ≤ z1 ∧ z1 ≤ 1)))))) ⟨hx, hb, hml, hown, hts⟩ (c_X10_in l g τ z1 0 1 ⟨by omega, by omega⟩ ⟨by omega, by omega⟩ ⟨by omega, by omega⟩) gX10_save_X10_in cd_X10_in rfl ⟨rfl, rfl⟩ ⟨Nat.le_of_ble_eq_true rfl, Nat.le_of_ble_eq_true rfl⟩ hK (fun _ _ h => by cases h) rfl hl rfl (Nat.le_of_ble_eq_true rfl) dX10_save_5 ⟨Nat.le_of_ble_eq_true rfl, Nat.le_of_ble_eq_true rfl⟩ ?_
  refine tl_some ?_
  refine zb_if_eq (tgt := 15) hx hb dX10_save_8 (by decide) (fun c_1 => ?_) (fun c_1 => ?_)
  · have cd_c_1 := of_decide_eq_false c_1
    refine lv_iconst (v := iI 1) hx hb dX10_save_15 (by decide) ?_
    refine rw_V (As := [Value.int (iI 1)]) (rest := []) ⟨hx, hb, hml, hown, hts⟩ (c_X10_refused l g τ ma M 1 ⟨by decide, by decide⟩) gX10_save_X10_refused cd_X10_refused rfl rfl ⟨rfl, rfl⟩ ⟨Nat.le_of_ble_eq_true rfl, Nat.le_of_ble_eq_true rfl⟩ hK hP hD hS [0] (rfl) (by decide) 0 rfl rfl rfl rfl hl rfl (Nat.le_of_ble_eq_true rfl) dX10_save_16 ⟨Nat.le_of_ble_eq_true rfl, Nat.le_of_ble_eq_true rfl⟩ (fun v w h => by rw [h.2]; rfl) (fun v w1 H locs hZ hP hD hS => ?_)
    obtain ⟨rfl, rfl⟩ := hZ
    have hP : va_P g vwCl ([moO ma (updZ M 0 1), arC (ma 1) (τ 0) 291 (flR R), arC (ma 6) (τ 0) 582 (bkF K), arC (ma 7) (τ 1) 2 ik]) H := hP
    have hD : va_D A ([moO ma (updZ M 0 1), arC (ma 1) (τ 0) 291 (flR R), arC (ma 6) (τ 0) 582 (bkF K), arC (ma 7) (τ 1) 2 ik]) := hD
    refine tl_some ?_
    refine cv_i (y := iI 1) (congrArg iI (if_neg (by decide))) ?_
    refine zi_if_eq (tgt := 24) hx hb ⟨by decide, by decide⟩ dX10_save_19 (by decide) (fun c_2 => ?_) (fun c_2 => ?_)
    · exact absurd c_2 (by decide)
    refine lv_iconst (v := iI 0) hx hb dX10_save_22 (by decide) ?_
    exact rw_iret hx hb hr hlocks hP hS (⟨(updZ M 0 1), rfl, rfl, Or.inl ⟨by omega, rfl, rfl, rfl⟩⟩) dX10_save_23
  · have cd_c_1 := of_decide_eq_true c_1
    refine lv_iconst (v := iI 0) hx hb dX10_save_11 (by decide) ?_
    refine lv_goto (tgt := 16) hx hb dX10_save_12 (by decide) ?_
    refine rw_V (As := [Value.int (iI 0)]) (rest := []) ⟨hx, hb, hml, hown, hts⟩ (c_X10_refused l g τ ma M 0 ⟨by decide, by decide⟩) gX10_save_X10_refused cd_X10_refused rfl rfl ⟨rfl, rfl⟩ ⟨Nat.le_of_ble_eq_true rfl, Nat.le_of_ble_eq_true rfl⟩ hK hP hD hS [0] (rfl) (by decide) 0 rfl rfl rfl rfl hl rfl (Nat.le_of_ble_eq_true rfl) dX10_save_16 ⟨Nat.le_of_ble_eq_true rfl, Nat.le_of_ble_eq_true rfl⟩ (fun v w h => by rw [h.2]; rfl) (fun v w1 H locs hZ hP hD hS => ?_)
    obtain ⟨rfl, rfl⟩ := hZ
    have hP : va_P g vwCl ([moO ma (updZ M 0 0), arC (ma 1) (τ 0) 291 (flR R), arC (ma 6) (τ 0) 582 (bkF K), arC (ma 7) (τ 1) 2 ik]) H := hP
    have hD : va_D A ([moO ma (updZ M 0 0), arC (ma 1) (τ 0) 291 (flR R), arC (ma 6) (τ 0) 582 (bkF K), arC (ma 7) (τ 1) 2 ik]) := hD
    refine tl_some ?_
    refine cv_i (y := iI 0) (congrArg iI (if_pos rfl)) ?_
    refine zi_if_eq (tgt := 24) hx hb ⟨by decide, by decide⟩ dX10_save_19 (by decide) (fun c_3 => ?_) (fun c_3 => ?_)
    · skip
      obtain ⟨s1, rfl⟩ := Int.eq_ofNat_of_zero_le (show 0 ≤ z1 by omega)
      refine lv_iconst (v := iI 0) hx hb dX10_save_24 (by decide) ?_
      refine lv_istore_n (lv' := [(2, Value.int (iI 0)), (0, Value.ref (ma 0)), (1, Value.int (iI (s1 : Int)))]) hx hb dX10_save_25 rfl hl (by decide) rfl (fun ls hl => ?_)
      have hP : va_P g vwCl ([moO ma (updZ M 0 0), arC (ma 1) (τ 0) 291 (flR R), arC (ma 6) (τ 0) 582 (cpB (bkF K) s1 R 0), arC (ma 7) (τ 1) 2 ik]) H := by first | exact hP | (rw [cpB_0]; exact hP)
      have hD : va_D A ([moO ma (updZ M 0 0), arC (ma 1) (τ 0) 291 (flR R), arC (ma 6) (τ 0) 582 (cpB (bkF K) s1 R 0), arC (ma 7) (τ 1) 2 ik]) := by first | exact hD | (rw [cpB_0]; exact hD)
      refine lp_upW (fun i => [(2, Value.int (iI (i : Int))), (0, Value.ref (ma 0)), (1, Value.int (iI (s1 : Int)))]) (fun i => [moO ma (updZ M 0 0), arC (ma 1) (τ 0) 291 (flR R), arC (ma 6) (τ 0) 582 (cpB (bkF K) s1 R i), arC (ma 7) (τ 1) 2 ik]) (fun i => True) (291) (0) (by omega) hP hD hS (by first | trivial | (intro j hj; omega)) (lv_eq (lv_sub hl [0, 1, 2] rfl) (by show [(2, Value.int (iI 0)), (0, Value.ref (ma 0)), (1, Value.int (iI (s1 : Int)))] = [(2, Value.int (iI 0)), (0, Value.ref (ma 0)), (1, Value.int (iI (s1 : Int)))]; rfl)) (fun i h0_i hi_i hI_i ih_26 H locs hP hD hS ls hl => ?_)
      refine lv_iload_n hx hb dX10_save_26 rfl (lv_at hl 0 rfl) ?_
      refine lv_sipush (v := iI 291) hx hb dX10_save_27 (by decide) ?_
      refine zi_icmp_ge (tgt := 57) hx hb ⟨by omega, by omega⟩ ⟨by decide, by decide⟩ dX10_save_30 (by decide) (fun c_4 => ?_) (fun c_4 => ?_)
      · have _ := c_4
        have h0_i : i = 291 := by omega
        subst h0_i
        rw [cpB_e] at hP hD
        refine lv_aload_n hx hb dX10_save_57 rfl (lv_at hl 1 rfl) ?_
        refine va_get (D := g) (ci := 10) (v := Value.ref (ma 7)) (C := RX10) (T := TX10) (N := 18) hx hb hts in_X10_save_X10 hown hK.1 hP 0 (rfl) rfl 7 (by decide) (hts _ (List.mem_of_getElem? (i := 3) rfl) : (Cond.fieldLink RX10 25 "CordSealsModel" "isKept" "[Z").before _ s = true) (fun _ h9 => h9) rfl dX10_save_58 ?_
        refine lv_iload_n hx hb dX10_save_61 rfl (lv_at hl 2 rfl) ?_
        refine lv_iconst (v := iI 1) hx hb dX10_save_62 (by decide) ?_
        refine zz_ast hx hb hK hP hD hS 3 (f := ik) (rfl) (s1) (rfl) (by omega) (by decide) (by omega) dX10_save_63 (wo := [moO ma (updZ M 0 0), arC (ma 1) (τ 0) 291 (flR R), arC (ma 6) (τ 0) 582 (bkF (upB K s1 R)), arC (ma 7) (τ 1) 2 (updZ ik s1 1)]) rfl (fun H locs hP hD hS => ?_)
        refine lv_aload_n hx hb dX10_save_64 rfl (lv_at hl 1 rfl) ?_
        refine va_get (D := g) (ci := 10) (v := Value.ref (ma 1)) (C := RX10) (T := TX10) (N := 18) hx hb hts in_X10_save_X10 hown hK.1 hP 0 (rfl) rfl 1 (by decide) (hts _ (List.mem_of_getElem? (i := 2) rfl) : (Cond.fieldLink RX10 7 "CordSealsModel" "now" "[I").before _ s = true) (fun _ h9 => h9) rfl dX10_save_65 ?_
        refine lv_iconst (v := iI 2) hx hb dX10_save_68 (by decide) ?_
        refine zf_ald hx hb hK hP 1 (f := flR R) rfl (2) (rfl) (by omega) (by decide) (z := R 10 0) (fl_10) dX10_save_69 ?_
        have hb_5 := hB 10 0
        exact rw_iret hx hb hr hlocks hP hS (⟨(updZ M 0 0), rfl, rfl, Or.inr ⟨⟨by omega, by omega⟩, rfl, rfl, rfl⟩⟩) dX10_save_70
      · have _ := c_4
        have hl_i : i < 291 := by omega
        refine lv_aload_n hx hb dX10_save_33 rfl (lv_at hl 1 rfl) ?_
        refine va_get (D := g) (ci := 10) (v := Value.ref (ma 6)) (C := RX10) (T := TX10) (N := 18) hx hb hts in_X10_save_X10 hown hK.1 hP 0 (rfl) rfl 6 (by decide) (hts _ (List.mem_of_getElem? (i := 1) rfl) : (Cond.fieldLink RX10 22 "CordSealsModel" "kept" "[I").before _ s = true) (fun _ h9 => h9) rfl dX10_save_34 ?_
        refine lv_sipush (v := iI 291) hx hb dX10_save_37 (by decide) ?_
        refine lv_iload_n hx hb dX10_save_40 rfl (lv_at hl 2 rfl) ?_
        refine zi_mul hx hb dX10_save_41 ?_
        refine lv_iload_n hx hb dX10_save_42 rfl (lv_at hl 0 rfl) ?_
        refine zi_add hx hb dX10_save_43 ?_
        refine lv_aload_n hx hb dX10_save_44 rfl (lv_at hl 1 rfl) ?_
        refine va_get (D := g) (ci := 10) (v := Value.ref (ma 1)) (C := RX10) (T := TX10) (N := 18) hx hb hts in_X10_save_X10 hown hK.1 hP 0 (rfl) rfl 1 (by decide) (hts _ (List.mem_of_getElem? (i := 2) rfl) : (Cond.fieldLink RX10 7 "CordSealsModel" "now" "[I").before _ s = true) (fun _ h9 => h9) rfl dX10_save_45 ?_
        refine lv_iload_n hx hb dX10_save_48 rfl (lv_at hl 0 rfl) ?_
        refine zi_ald hx hb hK hP 1 (f := (flR R)) (rfl) (i) (rfl) (by omega) (by decide) dX10_save_49 ?_
        refine zi_ast hx hb hK hP hD hS 2 (f := (cpB (bkF K) s1 R i)) (rfl) ((291 * s1) + i) (by omega) (by omega) (by decide) dX10_save_50 (wo := [moO ma (updZ M 0 0), arC (ma 1) (τ 0) 291 (flR R), arC (ma 6) (τ 0) 582 (updZ (cpB (bkF K) s1 R i) ((291 * s1) + i) (flR R i)), arC (ma 7) (τ 1) 2 ik]) rfl (fun H locs hP hD hS => ?_)
        refine zi_inc (v := ((i + 1 : Nat) : Int)) (lv' := [(2, Value.int (iI ((i + 1 : Nat) : Int))), (0, Value.ref (ma 0)), (1, Value.int (iI (s1 : Int)))]) hx hb dX10_save_51 hl (k := 0) rfl (by omega) (by decide) rfl (fun ls hl => ?_)
        refine lv_goto (tgt := 26) hx hb dX10_save_54 (by decide) ?_
        have hb_6 : (((i + 1) : Nat) : Int) = ((i + 1 : Nat) : Int) := by first | rfl | omega | (simp [c_1, c_4]; done)
        have hw_7 : [moO ma (updZ M 0 0), arC (ma 1) (τ 0) 291 (flR R), arC (ma 6) (τ 0) 582 (updZ (cpB (bkF K) s1 R i) ((291 * s1) + i) (flR R i)), arC (ma 7) (τ 1) 2 ik] = [moO ma (updZ M 0 0), arC (ma 1) (τ 0) 291 (flR R), arC (ma 6) (τ 0) 582 (cpB (bkF K) s1 R (i + 1)), arC (ma 7) (τ 1) 2 ik] := by rw [cpB_s]
        rw [hw_7] at hP hD
        exact ih_26 hl_i (trivial) _ _ _ hP hD hS (lv_eq (lv_sub hl [0, 1, 2] rfl) (by show [(2, Value.int (iI (((i + 1) : Nat) : Int))), (0, Value.ref (ma 0)), (1, Value.int (iI (s1 : Int)))] = [(2, Value.int (iI ((i + 1 : Nat) : Int))), (0, Value.ref (ma 0)), (1, Value.int (iI (s1 : Int)))]; rw [hb_6]))
    · exact absurd c_3 (by decide)

theorem cd_X10_restore : cd yX10_restore 1 := by decide +kernel
theorem in_X10_restore_X10 : ∀ w ∈ wsX100, w ∈ wsX10_restore := by decide +kernel
set_option maxHeartbeats 1000000 in
set_option maxRecDepth 100000 in
theorem c_X10_restore (l : Launch) (g : va_G) (τ : Nat → ClassId) (ma : Nat → Nat) (M : Nat → Int) (R : Nat → Nat → Int) (hI : SI R) (z1 : Int) (rz1 : -2147483648 ≤ z1 ∧ z1 < 2147483648) (K : Nat → Nat → Nat → Int) (ik : Nat → Int) (hik : ∀ j, 0 ≤ ik j ∧ ik j ≤ 1)  : Met l yX10_restore wsX10_restore { frames := 1, cells := 0, slots := 0, locals := 25 } (va_Pc [Value.ref (ma 0), Value.int (iI z1)] (rwW g τ ([moO ma M, arC (ma 1) (τ 0) 291 (flR R), arC (ma 6) (τ 0) 582 (bkF K), arC (ma 7) (τ 1) 2 ik]))) (rwQ g (fun v w => ∃ M2 : Nat → Int, M2 9 = M 9 ∧ ((¬ (0 ≤ z1 ∧ z1 ≤ 1) ∧ v = some (Value.int (iI 0)) ∧ M2 0 = 1 ∧ M2 5 = M 5 ∧ w = [moO ma M2, arC (ma 1) (τ 0) 291 (flR R), arC (ma 6) (τ 0) 582 (bkF K), arC (ma 7) (τ 1) 2 ik]) ∨ ((0 ≤ z1 ∧ z1 ≤ 1) ∧ ik z1.toNat = 0 ∧ v = some (Value.int (iI 0)) ∧ M2 0 = 2 ∧ M2 5 = M 5 ∧ w = [moO ma M2, arC (ma 1) (τ 0) 291 (flR R), arC (ma 6) (τ 0) 582 (bkF K), arC (ma 7) (τ 1) 2 ik]) ∨ ((0 ≤ z1 ∧ z1 ≤ 1) ∧ ik z1.toNat = 1 ∧ v = some (Value.int (iI (K z1.toNat 10 0))) ∧ M2 0 = 0 ∧ M2 5 = 0 ∧ w = [moO ma M2, arC (ma 1) (τ 0) 291 (flR (K z1.toNat)), arC (ma 6) (τ 0) 582 (bkF K), arC (ma 7) (τ 1) 2 ik]))) (inW ([moO ma M, arC (ma 1) (τ 0) 291 (flR R), arC (ma 6) (τ 0) 582 (bkF K), arC (ma 7) (τ 1) 2 ik]))) 0 0 (inW ([moO ma M, arC (ma 1) (τ 0) 291 (flR R), arC (ma 6) (τ 0) 582 (bkF K), arC (ma 7) (τ 1) 2 ik])) := by
  have hB := hI.hB
  have hr0 := hI.r
  have hd0 := hI.d
  have hs0 := hI.s
  refine rwMet (cc := cX10_restore) (maxL := 3) (ret := (some .int)) (lv := [(0, Value.ref (ma 0)), (1, Value.int (iI z1))]) (by decide) rfl (Nat.le_of_ble_eq_true rfl) rfl ?_
  intro p e s m below meth c hx hb hr hml hts hown hlocks A H hP hD hS hK ls hl
  refine lv_aload_n hx hb dX10_restore_0 rfl (lv_at hl 0 rfl) ?_
  refine lv_iload_n hx hb dX10_restore_1 rfl (lv_at hl 1 rfl) ?_
  refine lv_i2l (v := (iI z1).toInt64) hx hb dX10_restore_2 rfl ?_
  refine cv_l (y := iL z1) (i2l_iL ⟨by omega, by omega⟩) ?_
  refine lv_lconst (v := 0) hx hb dX10_restore_3 (by decide) ?_
  refine cv_l (y := iL 0) (by decide) ?_
  refine lv_lconst (v := 1) hx hb dX10_restore_4 (by decide) ?_
  refine cv_l (y := iL 1) (by decide) ?_
  refine ro_S (As := [Value.long (iL z1), Value.long (iL 0), Value.long (iL 1)]) (rest := [Value.ref (ma 0)]) (v := some (Value.int (iI (zB (decide (0 ≤ z1 ∧ z1 ≤ 1)))))) ⟨hx, hb, hml, hown, hts⟩ (c_X10_in l g τ z1 0 1 ⟨by omega, by omega⟩ ⟨by omega, by omega⟩ ⟨by omega, by omega⟩) gX10_restore_X10_in cd_X10_in rfl ⟨rfl, rfl⟩ ⟨Nat.le_of_ble_eq_true rfl, Nat.le_of_ble_eq_true rfl⟩ hK (fun _ _ h => by cases h) rfl hl rfl (Nat.le_of_ble_eq_true rfl) dX10_restore_5 ⟨Nat.le_of_ble_eq_true rfl, Nat.le_of_ble_eq_true rfl⟩ ?_
  refine tl_some ?_
  refine zb_if_ne (tgt := 15) hx hb dX10_restore_8 (by decide) (fun c_1 => ?_) (fun c_1 => ?_)
  · have cd_c_1 := of_decide_eq_true c_1
    obtain ⟨s1, rfl⟩ := Int.eq_ofNat_of_zero_le (show 0 ≤ z1 by omega)
    have hiks := hik s1
    refine lv_aload_n hx hb dX10_restore_15 rfl (lv_at hl 0 rfl) ?_
    refine va_get (D := g) (ci := 10) (v := Value.ref (ma 7)) (C := RX10) (T := TX10) (N := 18) hx hb hts in_X10_restore_X10 hown hK.1 hP 0 (rfl) rfl 7 (by decide) (hts _ (List.mem_of_getElem? (i := 1) rfl) : (Cond.fieldLink RX10 25 "CordSealsModel" "isKept" "[Z").before _ s = true) (fun _ h9 => h9) rfl dX10_restore_16 ?_
    refine lv_iload_n hx hb dX10_restore_19 rfl (lv_at hl 1 rfl) ?_
    refine zz_ald hx hb hK hP 3 (f := ik) (rfl) (s1) (rfl) (by omega) (by decide) dX10_restore_20 ?_
    refine zi_if_ne (tgt := 28) hx hb ⟨by omega, by omega⟩ dX10_restore_21 (by decide) (fun c_2 => ?_) (fun c_2 => ?_)
    · have _ := c_2
      refine lv_iconst (v := iI 0) hx hb dX10_restore_28 (by decide) ?_
      refine rw_V (As := [Value.int (iI 0)]) (rest := []) ⟨hx, hb, hml, hown, hts⟩ (c_X10_refused l g τ ma M 0 ⟨by decide, by decide⟩) gX10_restore_X10_refused cd_X10_refused rfl rfl ⟨rfl, rfl⟩ ⟨Nat.le_of_ble_eq_true rfl, Nat.le_of_ble_eq_true rfl⟩ hK hP hD hS [0] (rfl) (by decide) 0 rfl rfl rfl rfl hl rfl (Nat.le_of_ble_eq_true rfl) dX10_restore_29 ⟨Nat.le_of_ble_eq_true rfl, Nat.le_of_ble_eq_true rfl⟩ (fun v w h => by rw [h.2]; rfl) (fun v w1 H locs hZ hP hD hS => ?_)
      obtain ⟨rfl, rfl⟩ := hZ
      have hP : va_P g vwCl ([moO ma (updZ M 0 0), arC (ma 1) (τ 0) 291 (flR R), arC (ma 6) (τ 0) 582 (bkF K), arC (ma 7) (τ 1) 2 ik]) H := hP
      have hD : va_D A ([moO ma (updZ M 0 0), arC (ma 1) (τ 0) 291 (flR R), arC (ma 6) (τ 0) 582 (bkF K), arC (ma 7) (τ 1) 2 ik]) := hD
      refine tl_some ?_
      refine cv_i (y := iI 0) (congrArg iI (if_pos rfl)) ?_
      refine zi_if_eq (tgt := 37) hx hb ⟨by decide, by decide⟩ dX10_restore_32 (by decide) (fun c_3 => ?_) (fun c_3 => ?_)
      · skip
        refine lv_iconst (v := iI 0) hx hb dX10_restore_37 (by decide) ?_
        refine lv_istore_n (lv' := [(2, Value.int (iI 0)), (0, Value.ref (ma 0)), (1, Value.int (iI (s1 : Int)))]) hx hb dX10_restore_38 rfl hl (by decide) rfl (fun ls hl => ?_)
        have hP : va_P g vwCl ([moO ma (updZ M 0 0), arC (ma 1) (τ 0) 291 (unF K s1 R 0), arC (ma 6) (τ 0) 582 (bkF K), arC (ma 7) (τ 1) 2 ik]) H := by first | exact hP | (rw [unF_0]; exact hP)
        have hD : va_D A ([moO ma (updZ M 0 0), arC (ma 1) (τ 0) 291 (unF K s1 R 0), arC (ma 6) (τ 0) 582 (bkF K), arC (ma 7) (τ 1) 2 ik]) := by first | exact hD | (rw [unF_0]; exact hD)
        refine lp_upW (fun i => [(2, Value.int (iI (i : Int))), (0, Value.ref (ma 0)), (1, Value.int (iI (s1 : Int)))]) (fun i => [moO ma (updZ M 0 0), arC (ma 1) (τ 0) 291 (unF K s1 R i), arC (ma 6) (τ 0) 582 (bkF K), arC (ma 7) (τ 1) 2 ik]) (fun i => True) (291) (0) (by omega) hP hD hS (by first | trivial | (intro j hj; omega)) (lv_eq (lv_sub hl [0, 1, 2] rfl) (by show [(2, Value.int (iI 0)), (0, Value.ref (ma 0)), (1, Value.int (iI (s1 : Int)))] = [(2, Value.int (iI 0)), (0, Value.ref (ma 0)), (1, Value.int (iI (s1 : Int)))]; rfl)) (fun i h0_i hi_i hI_i ih_39 H locs hP hD hS ls hl => ?_)
        refine lv_iload_n hx hb dX10_restore_39 rfl (lv_at hl 0 rfl) ?_
        refine lv_sipush (v := iI 291) hx hb dX10_restore_40 (by decide) ?_
        refine zi_icmp_ge (tgt := 70) hx hb ⟨by omega, by omega⟩ ⟨by decide, by decide⟩ dX10_restore_43 (by decide) (fun c_4 => ?_) (fun c_4 => ?_)
        · have _ := c_4
          have h0_i : i = 291 := by omega
          subst h0_i
          have hP : va_P g vwCl [moO ma (updZ M 0 0), arC (ma 1) (τ 0) 291 (flR (K s1)), arC (ma 6) (τ 0) 582 (bkF K), arC (ma 7) (τ 1) 2 ik] H := ar_P hP (q := 1) rfl (unF_e K _ R) rfl
          have hD : va_D A [moO ma (updZ M 0 0), arC (ma 1) (τ 0) 291 (flR (K s1)), arC (ma 6) (τ 0) 582 (bkF K), arC (ma 7) (τ 1) 2 ik] := ar_D hD (q := 1) rfl rfl
          refine lv_aload_n hx hb dX10_restore_70 rfl (lv_at hl 1 rfl) ?_
          refine lv_iconst (v := iI 0) hx hb dX10_restore_71 (by decide) ?_
          refine va_put (D := g) (ci := 10) (v := Value.int (iI 0)) (ty := .int) (C := RX10) (T := TX10) (N := 18) hx hb hts in_X10_restore_X10 tyX10 tyX10_ok nmX10 hown hK.1 hP hD hS 0 (rfl) rfl 5 (by decide) (hts _ (List.mem_of_getElem? (i := 4) rfl) : (Cond.fieldLink RX10 142 "CordSealsModel" "states" "I").before _ s = true) (fun _ h9 => h9) rfl (by decide +kernel) rfl rfl (Nat.le_of_ble_eq_true rfl) dX10_restore_72 (fun H locs hP hD hS => ?_)
          have hP : va_P g vwCl ([moO ma (updZ (updZ M 0 0) 5 0), arC (ma 1) (τ 0) 291 (flR (K s1)), arC (ma 6) (τ 0) 582 (bkF K), arC (ma 7) (τ 1) 2 ik]) H := hP
          have hD : va_D A ([moO ma (updZ (updZ M 0 0) 5 0), arC (ma 1) (τ 0) 291 (flR (K s1)), arC (ma 6) (τ 0) 582 (bkF K), arC (ma 7) (τ 1) 2 ik]) := hD
          refine lv_aload_n hx hb dX10_restore_75 rfl (lv_at hl 1 rfl) ?_
          refine va_get (D := g) (ci := 10) (v := Value.ref (ma 1)) (C := RX10) (T := TX10) (N := 18) hx hb hts in_X10_restore_X10 hown hK.1 hP 0 (rfl) rfl 1 (by decide) (hts _ (List.mem_of_getElem? (i := 2) rfl) : (Cond.fieldLink RX10 7 "CordSealsModel" "now" "[I").before _ s = true) (fun _ h9 => h9) rfl dX10_restore_76 ?_
          refine lv_iconst (v := iI 2) hx hb dX10_restore_79 (by decide) ?_
          refine zf_ald hx hb hK hP 1 (f := flR (K s1)) rfl (2) (rfl) (by omega) (by decide) (z := (K s1) 10 0) (fl_10) dX10_restore_80 ?_
          exact rw_iret hx hb hr hlocks hP hS (⟨(updZ (updZ M 0 0) 5 0), rfl, Or.inr (Or.inr ⟨⟨by omega, by omega⟩, by show ik s1 = 1; omega, rfl, rfl, rfl, rfl⟩)⟩) dX10_restore_81
        · have _ := c_4
          have hl_i : i < 291 := by omega
          refine lv_aload_n hx hb dX10_restore_46 rfl (lv_at hl 1 rfl) ?_
          refine va_get (D := g) (ci := 10) (v := Value.ref (ma 1)) (C := RX10) (T := TX10) (N := 18) hx hb hts in_X10_restore_X10 hown hK.1 hP 0 (rfl) rfl 1 (by decide) (hts _ (List.mem_of_getElem? (i := 2) rfl) : (Cond.fieldLink RX10 7 "CordSealsModel" "now" "[I").before _ s = true) (fun _ h9 => h9) rfl dX10_restore_47 ?_
          refine lv_iload_n hx hb dX10_restore_50 rfl (lv_at hl 0 rfl) ?_
          refine lv_aload_n hx hb dX10_restore_51 rfl (lv_at hl 1 rfl) ?_
          refine va_get (D := g) (ci := 10) (v := Value.ref (ma 6)) (C := RX10) (T := TX10) (N := 18) hx hb hts in_X10_restore_X10 hown hK.1 hP 0 (rfl) rfl 6 (by decide) (hts _ (List.mem_of_getElem? (i := 3) rfl) : (Cond.fieldLink RX10 22 "CordSealsModel" "kept" "[I").before _ s = true) (fun _ h9 => h9) rfl dX10_restore_52 ?_
          refine lv_sipush (v := iI 291) hx hb dX10_restore_55 (by decide) ?_
          refine lv_iload_n hx hb dX10_restore_58 rfl (lv_at hl 2 rfl) ?_
          refine zi_mul hx hb dX10_restore_59 ?_
          refine lv_iload_n hx hb dX10_restore_60 rfl (lv_at hl 0 rfl) ?_
          refine zi_add hx hb dX10_restore_61 ?_
          refine zi_ald hx hb hK hP 2 (f := (bkF K)) (rfl) ((291 * s1) + i) (by omega) (by omega) (by decide) dX10_restore_62 ?_
          refine zi_ast hx hb hK hP hD hS 1 (f := (unF K s1 R i)) (rfl) (i) (rfl) (by omega) (by decide) dX10_restore_63 (wo := [moO ma (updZ M 0 0), arC (ma 1) (τ 0) 291 (updZ (unF K s1 R i) i (bkF K ((291 * s1) + i))), arC (ma 6) (τ 0) 582 (bkF K), arC (ma 7) (τ 1) 2 ik]) rfl (fun H locs hP hD hS => ?_)
          refine zi_inc (v := ((i + 1 : Nat) : Int)) (lv' := [(2, Value.int (iI ((i + 1 : Nat) : Int))), (0, Value.ref (ma 0)), (1, Value.int (iI (s1 : Int)))]) hx hb dX10_restore_64 hl (k := 0) rfl (by omega) (by decide) rfl (fun ls hl => ?_)
          refine lv_goto (tgt := 39) hx hb dX10_restore_67 (by decide) ?_
          have hb_5 : (((i + 1) : Nat) : Int) = ((i + 1 : Nat) : Int) := by first | rfl | omega | (simp [c_1, c_2, c_4]; done)
          have hw_6 : [moO ma (updZ M 0 0), arC (ma 1) (τ 0) 291 (updZ (unF K s1 R i) i (bkF K ((291 * s1) + i))), arC (ma 6) (τ 0) 582 (bkF K), arC (ma 7) (τ 1) 2 ik] = [moO ma (updZ M 0 0), arC (ma 1) (τ 0) 291 (unF K s1 R (i + 1)), arC (ma 6) (τ 0) 582 (bkF K), arC (ma 7) (τ 1) 2 ik] := by rw [unF_s]
          rw [hw_6] at hP hD
          exact ih_39 hl_i (trivial) _ _ _ hP hD hS (lv_eq (lv_sub hl [0, 1, 2] rfl) (by show [(2, Value.int (iI (((i + 1) : Nat) : Int))), (0, Value.ref (ma 0)), (1, Value.int (iI (s1 : Int)))] = [(2, Value.int (iI ((i + 1 : Nat) : Int))), (0, Value.ref (ma 0)), (1, Value.int (iI (s1 : Int)))]; rw [hb_5]))
      · exact absurd c_3 (by decide)
    · have _ := c_2
      refine lv_iconst (v := iI 2) hx hb dX10_restore_24 (by decide) ?_
      refine lv_goto (tgt := 29) hx hb dX10_restore_25 (by decide) ?_
      refine rw_V (As := [Value.int (iI 2)]) (rest := []) ⟨hx, hb, hml, hown, hts⟩ (c_X10_refused l g τ ma M 2 ⟨by decide, by decide⟩) gX10_restore_X10_refused cd_X10_refused rfl rfl ⟨rfl, rfl⟩ ⟨Nat.le_of_ble_eq_true rfl, Nat.le_of_ble_eq_true rfl⟩ hK hP hD hS [0] (rfl) (by decide) 0 rfl rfl rfl rfl hl rfl (Nat.le_of_ble_eq_true rfl) dX10_restore_29 ⟨Nat.le_of_ble_eq_true rfl, Nat.le_of_ble_eq_true rfl⟩ (fun v w h => by rw [h.2]; rfl) (fun v w1 H locs hZ hP hD hS => ?_)
      obtain ⟨rfl, rfl⟩ := hZ
      have hP : va_P g vwCl ([moO ma (updZ M 0 2), arC (ma 1) (τ 0) 291 (flR R), arC (ma 6) (τ 0) 582 (bkF K), arC (ma 7) (τ 1) 2 ik]) H := hP
      have hD : va_D A ([moO ma (updZ M 0 2), arC (ma 1) (τ 0) 291 (flR R), arC (ma 6) (τ 0) 582 (bkF K), arC (ma 7) (τ 1) 2 ik]) := hD
      refine tl_some ?_
      refine cv_i (y := iI 1) (congrArg iI (if_neg (by decide))) ?_
      refine zi_if_eq (tgt := 37) hx hb ⟨by decide, by decide⟩ dX10_restore_32 (by decide) (fun c_7 => ?_) (fun c_7 => ?_)
      · exact absurd c_7 (by decide)
      refine lv_iconst (v := iI 0) hx hb dX10_restore_35 (by decide) ?_
      exact rw_iret hx hb hr hlocks hP hS (by first | exact ⟨(updZ M 0 2), rfl, Or.inl ⟨by omega, rfl, rfl, rfl, rfl⟩⟩ | exact ⟨(updZ M 0 2), rfl, Or.inr (Or.inl ⟨⟨by omega, by omega⟩, by show ik s1 = 0; omega, rfl, rfl, rfl, rfl⟩)⟩) dX10_restore_36
  · have cd_c_1 := of_decide_eq_false c_1
    refine lv_iconst (v := iI 1) hx hb dX10_restore_11 (by decide) ?_
    refine lv_goto (tgt := 29) hx hb dX10_restore_12 (by decide) ?_
    refine rw_V (As := [Value.int (iI 1)]) (rest := []) ⟨hx, hb, hml, hown, hts⟩ (c_X10_refused l g τ ma M 1 ⟨by decide, by decide⟩) gX10_restore_X10_refused cd_X10_refused rfl rfl ⟨rfl, rfl⟩ ⟨Nat.le_of_ble_eq_true rfl, Nat.le_of_ble_eq_true rfl⟩ hK hP hD hS [0] (rfl) (by decide) 0 rfl rfl rfl rfl hl rfl (Nat.le_of_ble_eq_true rfl) dX10_restore_29 ⟨Nat.le_of_ble_eq_true rfl, Nat.le_of_ble_eq_true rfl⟩ (fun v w h => by rw [h.2]; rfl) (fun v w1 H locs hZ hP hD hS => ?_)
    obtain ⟨rfl, rfl⟩ := hZ
    have hP : va_P g vwCl ([moO ma (updZ M 0 1), arC (ma 1) (τ 0) 291 (flR R), arC (ma 6) (τ 0) 582 (bkF K), arC (ma 7) (τ 1) 2 ik]) H := hP
    have hD : va_D A ([moO ma (updZ M 0 1), arC (ma 1) (τ 0) 291 (flR R), arC (ma 6) (τ 0) 582 (bkF K), arC (ma 7) (τ 1) 2 ik]) := hD
    refine tl_some ?_
    refine cv_i (y := iI 1) (congrArg iI (if_neg (by decide))) ?_
    refine zi_if_eq (tgt := 37) hx hb ⟨by decide, by decide⟩ dX10_restore_32 (by decide) (fun c_8 => ?_) (fun c_8 => ?_)
    · exact absurd c_8 (by decide)
    refine lv_iconst (v := iI 0) hx hb dX10_restore_35 (by decide) ?_
    exact rw_iret hx hb hr hlocks hP hS (by first | exact ⟨(updZ M 0 1), rfl, Or.inl ⟨by omega, rfl, rfl, rfl, rfl⟩⟩ | exact ⟨(updZ M 0 1), rfl, Or.inr (Or.inl ⟨⟨by omega, by omega⟩, by show ik s1 = 0; omega, rfl, rfl, rfl, rfl⟩)⟩) dX10_restore_36
