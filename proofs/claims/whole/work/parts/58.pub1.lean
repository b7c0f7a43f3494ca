/-! what the reference answers -/
def cPd (R : Nat → Nat → Int) (w : Int) (s : Nat) : Bool := if w = 4 then decide (R 20 (R 12 s).toNat < R 14 s) else if w = 5 then decide (¬ R 16 s = -1) else decide (sOf R (s : Int) < 6)
def rCnt (R : Nat → Nat → Int) (w : Int) : Nat → Int := cnt (cPd R w)
def rFo (R : Nat → Nat → Int) (c : Int) : Nat → Int := cnt (fun s => decide (R 16 s = c ∧ 0 < rFk R s))
def rBc (R : Nat → Nat → Int) : Nat → Int := cnt (fun c => decide (0 < rFo R (c : Int) (R 10 0).toNat))
def rDf (R : Nat → Nat → Int) (d f : Int) : Nat → Int := cnt (fun s => decide (R 11 s = d ∧ (f = 0 ∨ 0 < rFk R s)))
def rCan (R : Nat → Nat → Int) (s : Nat) (y : Int) : Bool := decide (sLo R s ≤ y ∧ y ≤ sHi R s) && decide (rY R y y (rMask R s) 2 = 1)
def rDm (R : Nat → Nat → Int) (c : Int) : Nat → Int
  | 0 => -1
  | s + 1 => if R 16 s = c ∧ ownA R s = 0 then (if rDm R c s < rCh R c (s : Int) 2 then rCh R c (s : Int) 2 else rDm R c s) else rDm R c s
def rDb (R : Nat → Nat → Int) (c : Int) : Nat → Int
  | 0 => -1
  | s + 1 => if R 16 s = c ∧ ownA R s = 0 then (if rDm R c s < rCh R c (s : Int) 2 then (s : Int) else rDb R c s) else rDb R c s
theorem rDm_b {R : Nat → Nat → Int} (hI : SI R) (c : Int) : ∀ n, -1 ≤ rDm R c n ∧ rDm R c n < 1000000
  | 0 => by show -1 ≤ (-1 : Int) ∧ (-1 : Int) < 1000000; decide
  | n + 1 => by
    have := rDm_b hI c n
    have := rCh_b hI c (n : Int) 2
    unfold rDm
    repeat' split
    all_goals omega
def rIn (R : Nat → Nat → Int) (y : Int) : Nat → Int := cnt (fun s => decide (rFk R s = 0) && rCan R s y)
def pAbout (R : Nat → Nat → Int) (w : Int) : Int × Int := if 0 ≤ w ∧ w ≤ 8 then (0, if w = 0 then R 1 0 else if w = 1 then R 4 0 else if w = 2 then R 10 0 else if w = 3 then rFks R (R 10 0).toNat else if w = 6 then rBc R 6 else if w = 8 then rBad R 6 else rCnt R w (R 10 0).toNat) else (1, 0)
def pReign (R : Nat → Nat → Int) (r w : Int) : Int × Int := if ¬ (0 ≤ r ∧ r ≤ R 1 0 - 1) then (1, 0) else if ¬ (0 ≤ w ∧ w ≤ 2) then (2, 0) else (0, if w = 0 then R 2 r.toNat else if w = 1 then kLast R (R 1 0).toNat (r.toNat + 1) else R 3 r.toNat)
def pDie (R : Nat → Nat → Int) (d w : Int) : Int × Int := if ¬ (0 ≤ d ∧ d ≤ R 4 0 - 1) then (1, 0) else if ¬ (0 ≤ w ∧ w ≤ 5) then (2, 0) else (0, if w = 0 then R 5 d.toNat else if w = 1 then R 6 d.toNat else if w = 2 then R 7 d.toNat else if w = 3 then R 8 d.toNat else rDf R d (if w = 5 then 1 else 0) (R 10 0).toNat)
def pCrack (R : Nat → Nat → Int) (d k : Int) : Int × Int := if ¬ ((0 ≤ d ∧ d ≤ R 4 0 - 1) ∧ 0 ≤ k ∧ k ≤ R 8 d.toNat - 1) then (1, 0) else (0, R 9 (d.toNat * 4 + k.toNat))
def pSeal (R : Nat → Nat → Int) (s w : Int) : Int × Int := if ¬ (0 ≤ s ∧ s ≤ R 10 0 - 1) then (1, 0) else if ¬ (0 ≤ w ∧ w ≤ 7) then (2, 0) else (0, if w = 0 then R 11 s.toNat else if w = 1 then R 12 s.toNat else if w = 2 then R 13 s.toNat else if w = 3 then R 14 s.toNat else if w = 4 then R 15 s.toNat else if w = 5 then R 16 s.toNat else if w = 6 then plI 6 (sOf R s) else if sOf R s < 6 then plI (shN R (sOf R s)) (pOn R (sOf R s) s) else -1)
def pDated (R : Nat → Nat → Int) (s w : Int) : Int × Int := if ¬ (0 ≤ s ∧ s ≤ R 10 0 - 1) then (1, 0) else if ¬ (0 ≤ w ∧ w ≤ 3) then (2, 0) else (0, if w = 3 then rFk R s.toNat else rY R (sLo R s.toNat) (sHi R s.toNat) (rMask R s.toNat) w)
def pPoss (R : Nat → Nat → Int) (s y : Int) : Int × Int := if ¬ (0 ≤ s ∧ s ≤ R 10 0 - 1) then (1, 0) else if ¬ (1000 ≤ y ∧ y ≤ 1999) then (2, 0) else (0, zB (rCan R s.toNat y))
def pChart (R : Nat → Nat → Int) (c w : Int) : Int × Int := if ¬ (0 ≤ c ∧ c ≤ 5) then (1, 0) else if ¬ (0 ≤ w ∧ w ≤ 4) then (2, 0) else (0, if w = 0 then cnt (fun s => decide (R 16 s = c)) (R 10 0).toNat else if w = 4 then rFo R c (R 10 0).toNat else rCh R c (-1) (w - 1))
def pShelf (R : Nat → Nat → Int) (h k : Int) : Int × Int := if ¬ (0 ≤ h ∧ h ≤ 5) then (1, 0) else if k < 0 then (2, 0) else (0, if k < R 18 h.toNat then R 19 (h.toNat * 6 + k.toNat) else -1)
def pOlder (R : Nat → Nat → Int) (s t : Int) : Int × Int := if ¬ ((0 ≤ s ∧ s ≤ R 10 0 - 1) ∧ 0 ≤ t ∧ t ≤ R 10 0 - 1) then (1, 0) else (0, if rY R (sLo R s.toNat) (sHi R s.toNat) (rMask R s.toNat) 2 = 0 ∨ rY R (sLo R t.toNat) (sHi R t.toNat) (rMask R t.toNat) 2 = 0 then -1 else if rY R (sLo R s.toNat) (sHi R s.toNat) (rMask R s.toNat) 1 < y0 R t.toNat then s else if rY R (sLo R t.toNat) (sHi R t.toNat) (rMask R t.toNat) 1 < y0 R s.toNat then t else -1)
def pDec (R : Nat → Nat → Int) (c : Int) : Int × Int := if ¬ (0 ≤ c ∧ c ≤ 5) then (1, 0) else (0, rDb R c (R 10 0).toNat)
def pIn (R : Nat → Nat → Int) (y : Int) : Int × Int := if ¬ (1000 ≤ y ∧ y ≤ 1999) then (1, 0) else (0, rIn R y (R 10 0).toNat)

theorem cd_X10_thrown : cd yX10_thrown 0 := by decide +kernel
theorem in_X10_thrown_X10 : ∀ w ∈ wsX100, w ∈ wsX10_thrown := by decide +kernel
set_option maxHeartbeats 1000000 in
set_option maxRecDepth 100000 in
theorem c_X10_thrown (l : Launch) (g : va_G) (τ : Nat → ClassId) (ma : Nat → Nat) (M : Nat → Int)  : Met l yX10_thrown wsX10_thrown { frames := 0, cells := 0, slots := 0, locals := 0 } (va_Pc [Value.ref (ma 0)] (roW g τ ([moO ma M]))) (roQ (some (Value.int (iI (M 0))))) 0 0 nof := by
  refine roMet (cc := cX10_thrown) (maxL := 1) (ret := (some .int)) (lv := [(0, Value.ref (ma 0))]) (by decide) rfl (Nat.le_of_ble_eq_true rfl) rfl ?_
  intro p e s m below meth c hx hb hr hml hts hown hlocks hP hK ls hl
  refine lv_aload_n hx hb dX10_thrown_0 rfl (lv_at hl 0 rfl) ?_
  refine va_get (D := g) (ci := 10) (v := Value.int (iI (M 0))) (C := RX10) (T := TX10) (N := 18) hx hb hts in_X10_thrown_X10 hown hK.1 hP 0 (rfl) rfl 0 (by decide) (hts _ (List.mem_of_getElem? (i := 1) rfl) : (Cond.fieldLink RX10 39 "CordSealsModel" "refusal" "I").before _ s = true) (fun _ h9 => h9) rfl dX10_thrown_1 ?_
  exact zo_iret hx hb hr hlocks (rfl) dX10_thrown_4

theorem cd_X10_refused : cd yX10_refused 1 := by decide +kernel
theorem in_X10_refused_X10 : ∀ w ∈ wsX100, w ∈ wsX10_refused := by decide +kernel
set_option maxHeartbeats 1000000 in
set_option maxRecDepth 100000 in
theorem c_X10_refused (l : Launch) (g : va_G) (τ : Nat → ClassId) (ma : Nat → Nat) (M : Nat → Int) (w1 : Int) (rw1 : -2147483648 ≤ w1 ∧ w1 < 2147483648)  : Met l yX10_refused wsX10_refused { frames := 0, cells := 0, slots := 0, locals := 0 } (va_Pc [Value.ref (ma 0), Value.int (iI w1)] (rwW g τ ([moO ma M]))) (rwQ g (fun v w => v = some (Value.int (iI (if w1 = 0 then 0 else 1))) ∧ w = [moO ma (updZ M 0 w1)]) (inW ([moO ma M]))) 0 0 (inW ([moO ma M])) := by
  refine rwMet (cc := cX10_refused) (maxL := 2) (ret := (some .boolean)) (lv := [(0, Value.ref (ma 0)), (1, Value.int (iI w1))]) (by decide) rfl (Nat.le_of_ble_eq_true rfl) rfl ?_
  intro p e s m below meth c hx hb hr hml hts hown hlocks A H hP hD hS hK ls hl
  refine lv_aload_n hx hb dX10_refused_0 rfl (lv_at hl 0 rfl) ?_
  refine lv_iload_n hx hb dX10_refused_1 rfl (lv_at hl 1 rfl) ?_
  refine va_put (D := g) (ci := 10) (v := Value.int (iI w1)) (ty := .int) (C := RX10) (T := TX10) (N := 18) hx hb hts in_X10_refused_X10 tyX10 tyX10_ok nmX10 hown hK.1 hP hD hS 0 (rfl) rfl 0 (by decide) (hts _ (List.mem_of_getElem? (i := 1) rfl) : (Cond.fieldLink RX10 39 "CordSealsModel" "refusal" "I").before _ s = true) (fun _ h9 => h9) rfl (by decide +kernel) rfl rfl (Nat.le_of_ble_eq_true rfl) dX10_refused_2 (fun H locs hP hD hS => ?_)
  have hP : va_P g vwCl ([moO ma (updZ M 0 w1)]) H := hP
  have hD : va_D A ([moO ma (updZ M 0 w1)]) := hD
  refine lv_iload_n hx hb dX10_refused_5 rfl (lv_at hl 1 rfl) ?_
  refine zi_if_eq (tgt := 13) hx hb ⟨by omega, by omega⟩ dX10_refused_6 (by decide) (fun c_1 => ?_) (fun c_1 => ?_)
  · have _ := c_1
    refine lv_iconst (v := iI 0) hx hb dX10_refused_13 (by decide) ?_
    exact rw_zret hx hb hr hlocks hP hS (⟨⟨by first | rw [if_pos (by assumption)] | rw [if_neg (by assumption)], rfl⟩, by first | exact ⟨false, rfl⟩ | exact ⟨true, rfl⟩⟩) dX10_refused_14
  · have _ := c_1
    refine lv_iconst (v := iI 1) hx hb dX10_refused_9 (by decide) ?_
    refine lv_goto (tgt := 14) hx hb dX10_refused_10 (by decide) ?_
    exact rw_zret hx hb hr hlocks hP hS (⟨⟨by first | rw [if_pos (by assumption)] | rw [if_neg (by assumption)], rfl⟩, by first | exact ⟨false, rfl⟩ | exact ⟨true, rfl⟩⟩) dX10_refused_14

theorem cd_X10_countOf : cd yX10_countOf 1 := by decide +kernel
theorem in_X10_countOf_X10 : ∀ w ∈ wsX100, w ∈ wsX10_countOf := by decide +kernel
set_option maxHeartbeats 1000000 in
set_option maxRecDepth 100000 in
theorem c_X10_countOf (l : Launch) (g : va_G) (τ : Nat → ClassId) (ma : Nat → Nat) (M : Nat → Int) (R : Nat → Nat → Int) (hI : SI R) (w1 : Int) (rw1 : -2147483648 ≤ w1 ∧ w1 < 2147483648)  : Met l yX10_countOf wsX10_countOf { frames := 2, cells := 0, slots := 0, locals := 47 } (va_Pc [Value.ref (ma 0), Value.int (iI w1)] (roW g τ ([moO ma M, arC (ma 1) (τ 0) 291 (flR R)]))) (roQ (some (Value.int (iI (rCnt R w1 (R 10 0).toNat))))) 0 0 nof := by
  have hB := hI.hB
  have hr0 := hI.r
  have hd0 := hI.d
  have hs0 := hI.s
  refine roMet (cc := cX10_countOf) (maxL := 5) (ret := (some .int)) (lv := [(0, Value.ref (ma 0)), (1, Value.int (iI w1))]) (by decide) rfl (Nat.le_of_ble_eq_true rfl) rfl ?_
  intro p e s m below meth c hx hb hr hml hts hown hlocks hP hK ls hl
  refine lv_iconst (v := iI 0) hx hb dX10_countOf_0 (by decide) ?_
  refine lv_istore_n (lv' := [(2, Value.int (iI 0)), (0, Value.ref (ma 0)), (1, Value.int (iI w1))]) hx hb dX10_countOf_1 rfl hl (by decide) rfl (fun ls hl => ?_)
  refine lv_iconst (v := iI 0) hx hb dX10_countOf_2 (by decide) ?_
  refine lv_istore_n (lv' := [(3, Value.int (iI 0)), (2, Value.int (iI 0)), (0, Value.ref (ma 0)), (1, Value.int (iI w1))]) hx hb dX10_countOf_3 rfl hl (by decide) rfl (fun ls hl => ?_)
  have h0_1 : rCnt R w1 0 = 0 := rfl
  refine lp_up (fun i => [(3, Value.int (iI (i : Int))), (2, Value.int (iI (rCnt R w1 i))), (0, Value.ref (ma 0)), (1, Value.int (iI w1))]) (fun i => True) ((R 10 0).toNat) (0) (by omega) (by first | trivial | (intro j hj; omega)) (lv_eq (lv_sub hl [0, 1, 2, 3] rfl) (by show [(3, Value.int (iI 0)), (2, Value.int (iI (rCnt R w1 0))), (0, Value.ref (ma 0)), (1, Value.int (iI w1))] = [(3, Value.int (iI 0)), (2, Value.int (iI 0)), (0, Value.ref (ma 0)), (1, Value.int (iI w1))]; rw [h0_1])) (fun i h0_i hi_i hI_i ih_4 ls hl => ?_)
  have hcle := cnt_le (cPd R w1) i
  refine lv_iload_n hx hb dX10_countOf_4 rfl (lv_at hl 0 rfl) ?_
  refine lv_aload_n hx hb dX10_countOf_5 rfl (lv_at hl 2 rfl) ?_
  refine va_get (D := g) (ci := 10) (v := Value.ref (ma 1)) (C := RX10) (T := TX10) (N := 18) hx hb hts in_X10_countOf_X10 hown hK.1 hP 0 (rfl) rfl 1 (by decide) (hts _ (List.mem_of_getElem? (i := 1) rfl) : (Cond.fieldLink RX10 7 "CordSealsModel" "now" "[I").before _ s = true) (fun _ h9 => h9) rfl dX10_countOf_6 ?_
  refine lv_iconst (v := iI 2) hx hb dX10_countOf_9 (by decide) ?_
  refine zf_ald hx hb hK hP 1 (f := flR R) rfl (2) (rfl) (by omega) (by decide) (z := R 10 0) (fl_10) dX10_countOf_10 ?_
  have hb_2 := hB 10 0
  refine zi_icmp_ge (tgt := 95) hx hb ⟨by omega, by omega⟩ ⟨by omega, by omega⟩ dX10_countOf_11 (by decide) (fun c_3 => ?_) (fun c_3 => ?_)
  · have _ := c_3
    have h0_i : i = (R 10 0).toNat := by omega
    refine lv_iload_n hx hb dX10_countOf_95 rfl (lv_at hl 1 rfl) ?_
    exact zo_iret hx hb hr hlocks (by rw [h0_i]) dX10_countOf_96
  · have _ := c_3
    have hl_i : i < (R 10 0).toNat := by omega
    refine jn (F0 m 74 ls (Value.int (iI (zB (cPd R w1 i))) :: [])) ?_ (fun K => ?_)
    · skip
      refine lv_istore (lv' := [(4, Value.int (iI (zB (cPd R w1 i)))), (3, Value.int (iI (i : Int))), (2, Value.int (iI (rCnt R w1 i))), (0, Value.ref (ma 0)), (1, Value.int (iI w1))]) hx hb dX10_countOf_74 hl (by decide) rfl (fun ls hl => ?_)
      refine lv_iload_n hx hb dX10_countOf_76 rfl (lv_at hl 2 rfl) ?_
      refine lv_iload hx hb dX10_countOf_77 (lv_at hl 0 rfl) ?_
      refine zb_if_eq (tgt := 86) hx hb dX10_countOf_79 (by decide) (fun c_4 => ?_) (fun c_4 => ?_)
      · have _ := c_4
        refine lv_iconst (v := iI 0) hx hb dX10_countOf_86 (by decide) ?_
        refine zi_add hx hb dX10_countOf_87 ?_
        refine lv_istore_n (lv' := [(2, Value.int (iI ((rCnt R w1 i) + 0))), (4, Value.int (iI (zB (cPd R w1 i)))), (3, Value.int (iI (i : Int))), (0, Value.ref (ma 0)), (1, Value.int (iI w1))]) hx hb dX10_countOf_88 rfl hl (by decide) rfl (fun ls hl => ?_)
        refine zi_inc (v := ((i + 1 : Nat) : Int)) (lv' := [(3, Value.int (iI ((i + 1 : Nat) : Int))), (2, Value.int (iI ((rCnt R w1 i) + 0))), (4, Value.int (iI (zB (cPd R w1 i)))), (0, Value.ref (ma 0)), (1, Value.int (iI w1))]) hx hb dX10_countOf_89 hl (k := 2) rfl (by omega) (by decide) rfl (fun ls hl => ?_)
        refine lv_goto (tgt := 4) hx hb dX10_countOf_92 (by decide) ?_
        have hb_5 : (((i + 1) : Nat) : Int) = ((i + 1 : Nat) : Int) := by first | rfl | omega | (simp [c_3, c_4]; done)
        have hb_6 : rCnt R w1 (i + 1) = (rCnt R w1 i) + 0 := by unfold rCnt; first | (rw [cnt_t (by assumption)]) | (rw [cnt_f (by assumption)]; omega)
        exact ih_4 hl_i (trivial) _ (lv_eq (lv_sub hl [0, 1, 3, 4] rfl) (by show [(3, Value.int (iI (((i + 1) : Nat) : Int))), (2, Value.int (iI (rCnt R w1 (i + 1)))), (0, Value.ref (ma 0)), (1, Value.int (iI w1))] = [(3, Value.int (iI ((i + 1 : Nat) : Int))), (2, Value.int (iI ((rCnt R w1 i) + 0))), (0, Value.ref (ma 0)), (1, Value.int (iI w1))]; rw [hb_5, hb_6]))
      · have _ := c_4
        refine lv_iconst (v := iI 1) hx hb dX10_countOf_82 (by decide) ?_
        refine lv_goto (tgt := 87) hx hb dX10_countOf_83 (by decide) ?_
        refine zi_add hx hb dX10_countOf_87 ?_
        refine lv_istore_n (lv' := [(2, Value.int (iI ((rCnt R w1 i) + 1))), (4, Value.int (iI (zB (cPd R w1 i)))), (3, Value.int (iI (i : Int))), (0, Value.ref (ma 0)), (1, Value.int (iI w1))]) hx hb dX10_countOf_88 rfl hl (by decide) rfl (fun ls hl => ?_)
        refine zi_inc (v := ((i + 1 : Nat) : Int)) (lv' := [(3, Value.int (iI ((i + 1 : Nat) : Int))), (2, Value.int (iI ((rCnt R w1 i) + 1))), (4, Value.int (iI (zB (cPd R w1 i)))), (0, Value.ref (ma 0)), (1, Value.int (iI w1))]) hx hb dX10_countOf_89 hl (k := 2) rfl (by omega) (by decide) rfl (fun ls hl => ?_)
        refine lv_goto (tgt := 4) hx hb dX10_countOf_92 (by decide) ?_
        have hb_7 : (((i + 1) : Nat) : Int) = ((i + 1 : Nat) : Int) := by first | rfl | omega | (simp [c_3, c_4]; done)
        have hb_8 : rCnt R w1 (i + 1) = (rCnt R w1 i) + 1 := by unfold rCnt; first | (rw [cnt_t (by assumption)]) | (rw [cnt_f (by assumption)]; omega)
        exact ih_4 hl_i (trivial) _ (lv_eq (lv_sub hl [0, 1, 3, 4] rfl) (by show [(3, Value.int (iI (((i + 1) : Nat) : Int))), (2, Value.int (iI (rCnt R w1 (i + 1)))), (0, Value.ref (ma 0)), (1, Value.int (iI w1))] = [(3, Value.int (iI ((i + 1 : Nat) : Int))), (2, Value.int (iI ((rCnt R w1 i) + 1))), (0, Value.ref (ma 0)), (1, Value.int (iI w1))]; rw [hb_7, hb_8]))
    · skip
      refine lv_iload_n hx hb dX10_countOf_14 rfl (lv_at hl 3 rfl) ?_
      refine lv_iconst (v := iI 4) hx hb dX10_countOf_15 (by decide) ?_
      refine zi_icmp_ne (tgt := 30) hx hb ⟨by omega, by omega⟩ ⟨by decide, by decide⟩ dX10_countOf_16 (by decide) (fun c_9 => ?_) (fun c_9 => ?_)
      · have _ := c_9
        refine lv_iload_n hx hb dX10_countOf_30 rfl (lv_at hl 3 rfl) ?_
        refine lv_iconst (v := iI 5) hx hb dX10_countOf_31 (by decide) ?_
        refine zi_icmp_ne (tgt := 57) hx hb ⟨by omega, by omega⟩ ⟨by decide, by decide⟩ dX10_countOf_32 (by decide) (fun c_10 => ?_) (fun c_10 => ?_)
        · have _ := c_10
          refine lv_aload_n hx hb dX10_countOf_57 rfl (lv_at hl 2 rfl) ?_
          refine va_get (D := g) (ci := 10) (v := Value.ref (ma 1)) (C := RX10) (T := TX10) (N := 18) hx hb hts in_X10_countOf_X10 hown hK.1 hP 0 (rfl) rfl 1 (by decide) (hts _ (List.mem_of_getElem? (i := 1) rfl) : (Cond.fieldLink RX10 7 "CordSealsModel" "now" "[I").before _ s = true) (fun _ h9 => h9) rfl dX10_countOf_58 ?_
          refine lv_iload_n hx hb dX10_countOf_61 rfl (lv_at hl 0 rfl) ?_
          refine ro_S (As := [Value.ref (ma 1), Value.int (iI (i : Int))]) (rest := []) (v := some (Value.int (iI (plI 6 (sOf R (i : Int)))))) ⟨hx, hb, hml, hown, hts⟩ (e_X10_shelfOf l g τ (ma 1) R hI (i : Int) ⟨by omega, by omega⟩) gX10_countOf_X10_shelfOf cd_X10_shelfOf rfl ⟨rfl, rfl⟩ ⟨Nat.le_of_ble_eq_true rfl, Nat.le_of_ble_eq_true rfl⟩ hK (cut_P (is := [1]) hP rfl) rfl hl rfl (Nat.le_of_ble_eq_true rfl) dX10_countOf_62 ⟨Nat.le_of_ble_eq_true rfl, Nat.le_of_ble_eq_true rfl⟩ ?_
          refine tl_some ?_
          have := plI_r 6 (sOf R (i : Int))
          have hsle : sOf R (i : Int) ≤ 6 := fst_le _ _
          refine lv_iconst (v := iI (-1)) hx hb dX10_countOf_65 (by decide) ?_
          refine zi_icmp_eq (tgt := 73) hx hb ⟨by omega, by omega⟩ ⟨by decide, by decide⟩ dX10_countOf_66 (by decide) (fun c_11 => ?_) (fun c_11 => ?_)
          · have _ := c_11
            refine lv_iconst (v := iI 0) hx hb dX10_countOf_73 (by decide) ?_
            exact cv_i (congrArg iI (Eq.symm (show (zB (cPd R w1 i)) = 0 from by unfold cPd; first | rw [if_pos (by omega)] | (rw [if_neg (by omega), if_pos (by omega)]; first | (rw [decide_eq_true (by omega)]; rfl) | (rw [decide_eq_false (by omega)]; rfl)) | (rw [if_neg (by omega), if_neg (by omega)]; first | (rw [decide_eq_true (plI_yes (by assumption))]; rfl) | (rw [decide_eq_false (by (have := plI_no (by assumption)); omega)]; rfl))))) K
          · have _ := c_11
            refine lv_iconst (v := iI 1) hx hb dX10_countOf_69 (by decide) ?_
            refine lv_goto (tgt := 74) hx hb dX10_countOf_70 (by decide) ?_
            exact cv_i (congrArg iI (Eq.symm (show (zB (cPd R w1 i)) = 1 from by unfold cPd; first | rw [if_pos (by omega)] | (rw [if_neg (by omega), if_pos (by omega)]; first | (rw [decide_eq_true (by omega)]; rfl) | (rw [decide_eq_false (by omega)]; rfl)) | (rw [if_neg (by omega), if_neg (by omega)]; first | (rw [decide_eq_true (plI_yes (by assumption))]; rfl) | (rw [decide_eq_false (by (have := plI_no (by assumption)); omega)]; rfl))))) K
        · have _ := c_10
          refine lv_aload_n hx hb dX10_countOf_35 rfl (lv_at hl 2 rfl) ?_
          refine va_get (D := g) (ci := 10) (v := Value.ref (ma 1)) (C := RX10) (T := TX10) (N := 18) hx hb hts in_X10_countOf_X10 hown hK.1 hP 0 (rfl) rfl 1 (by decide) (hts _ (List.mem_of_getElem? (i := 1) rfl) : (Cond.fieldLink RX10 7 "CordSealsModel" "now" "[I").before _ s = true) (fun _ h9 => h9) rfl dX10_countOf_36 ?_
          refine lv_sipush (v := iI 225) hx hb dX10_countOf_39 (by decide) ?_
          refine lv_iload_n hx hb dX10_countOf_42 rfl (lv_at hl 0 rfl) ?_
          refine zi_add hx hb dX10_countOf_43 ?_
          refine zf_ald hx hb hK hP 1 (f := flR R) rfl (225 + i) (by omega) (by omega) (by decide) (z := R 16 i) (fl_16 (i := i) (by omega) (by omega)) dX10_countOf_44 ?_
          have hb_12 := hB 16 i
          refine lv_iconst (v := iI (-1)) hx hb dX10_countOf_45 (by decide) ?_
          refine zi_icmp_eq (tgt := 53) hx hb ⟨by omega, by omega⟩ ⟨by decide, by decide⟩ dX10_countOf_46 (by decide) (fun c_13 => ?_) (fun c_13 => ?_)
          · have _ := c_13
            refine lv_iconst (v := iI 0) hx hb dX10_countOf_53 (by decide) ?_
            refine lv_goto (tgt := 74) hx hb dX10_countOf_54 (by decide) ?_
            exact cv_i (congrArg iI (Eq.symm (show (zB (cPd R w1 i)) = 0 from by unfold cPd; first | rw [if_pos (by omega)] | (rw [if_neg (by omega), if_pos (by omega)]; first | (rw [decide_eq_true (by omega)]; rfl) | (rw [decide_eq_false (by omega)]; rfl)) | (rw [if_neg (by omega), if_neg (by omega)]; first | (rw [decide_eq_true (plI_yes (by assumption))]; rfl) | (rw [decide_eq_false (by (have := plI_no (by assumption)); omega)]; rfl))))) K
          · have _ := c_13
            refine lv_iconst (v := iI 1) hx hb dX10_countOf_49 (by decide) ?_
            refine lv_goto (tgt := 74) hx hb dX10_countOf_50 (by decide) ?_
            exact cv_i (congrArg iI (Eq.symm (show (zB (cPd R w1 i)) = 1 from by unfold cPd; first | rw [if_pos (by omega)] | (rw [if_neg (by omega), if_pos (by omega)]; first | (rw [decide_eq_true (by omega)]; rfl) | (rw [decide_eq_false (by omega)]; rfl)) | (rw [if_neg (by omega), if_neg (by omega)]; first | (rw [decide_eq_true (plI_yes (by assumption))]; rfl) | (rw [decide_eq_false (by (have := plI_no (by assumption)); omega)]; rfl))))) K
      · have _ := c_9
        refine lv_aload_n hx hb dX10_countOf_19 rfl (lv_at hl 2 rfl) ?_
        refine va_get (D := g) (ci := 10) (v := Value.ref (ma 1)) (C := RX10) (T := TX10) (N := 18) hx hb hts in_X10_countOf_X10 hown hK.1 hP 0 (rfl) rfl 1 (by decide) (hts _ (List.mem_of_getElem? (i := 1) rfl) : (Cond.fieldLink RX10 7 "CordSealsModel" "now" "[I").before _ s = true) (fun _ h9 => h9) rfl dX10_countOf_20 ?_
        refine lv_iload_n hx hb dX10_countOf_23 rfl (lv_at hl 0 rfl) ?_
        refine ro_S (As := [Value.ref (ma 1), Value.int (iI (i : Int))]) (rest := []) (v := some (Value.int (iI (zB (decide (R 20 (R 12 i).toNat < R 14 i)))))) ⟨hx, hb, hml, hown, hts⟩ (c_X10_isCast l g τ (ma 1) R hI i (by omega)) gX10_countOf_X10_isCast cd_X10_isCast rfl ⟨rfl, rfl⟩ ⟨Nat.le_of_ble_eq_true rfl, Nat.le_of_ble_eq_true rfl⟩ hK (cut_P (is := [1]) hP rfl) rfl hl rfl (Nat.le_of_ble_eq_true rfl) dX10_countOf_24 ⟨Nat.le_of_ble_eq_true rfl, Nat.le_of_ble_eq_true rfl⟩ ?_
        refine tl_some ?_
        refine lv_goto (tgt := 74) hx hb dX10_countOf_27 (by decide) ?_
        exact cv_i (congrArg iI (Eq.symm (show (zB (cPd R w1 i)) = (zB (decide (R 20 (R 12 i).toNat < R 14 i))) from by unfold cPd; first | rw [if_pos (by omega)] | (rw [if_neg (by omega), if_pos (by omega)]; first | (rw [decide_eq_true (by omega)]; rfl) | (rw [decide_eq_false (by omega)]; rfl)) | (rw [if_neg (by omega), if_neg (by omega)]; first | (rw [decide_eq_true (plI_yes (by assumption))]; rfl) | (rw [decide_eq_false (by (have := plI_no (by assumption)); omega)]; rfl))))) K

theorem cd_X10_fakesOn : cd yX10_fakesOn 1 := by decide +kernel
theorem in_X10_fakesOn_X10 : ∀ w ∈ wsX100, w ∈ wsX10_fakesOn := by decide +kernel
set_option maxHeartbeats 1000000 in
set_option maxRecDepth 100000 in
theorem c_X10_fakesOn (l : Launch) (g : va_G) (τ : Nat → ClassId) (ma : Nat → Nat) (M : Nat → Int) (R : Nat → Nat → Int) (hI : SI R) (c1 : Int) (rc1 : -2147483648 ≤ c1 ∧ c1 < 2147483648)  : Met l yX10_fakesOn wsX10_fakesOn { frames := 7, cells := 0, slots := 0, locals := 166 } (va_Pc [Value.ref (ma 0), Value.int (iI c1)] (rwW g τ ([moO ma M, arC (ma 1) (τ 0) 291 (flR R)]))) (rwQ g (fun v w => v = some (Value.int (iI (rFo R c1 (R 10 0).toNat))) ∧ ∃ M2, AG M M2 ∧ w = [moO ma M2, arC (ma 1) (τ 0) 291 (flR R)]) (inW ([moO ma M, arC (ma 1) (τ 0) 291 (flR R)]))) 0 0 (inW ([moO ma M, arC (ma 1) (τ 0) 291 (flR R)])) := by
  have hB := hI.hB
  have hr0 := hI.r
  have hd0 := hI.d
  have hs0 := hI.s
  refine rwMet (cc := cX10_fakesOn) (maxL := 4) (ret := (some .int)) (lv := [(0, Value.ref (ma 0)), (1, Value.int (iI c1))]) (by decide) rfl (Nat.le_of_ble_eq_true rfl) rfl ?_
  intro p e s m below meth c hx hb hr hml hts hown hlocks A H hP hD hS hK ls hl
  refine lv_iconst (v := iI 0) hx hb dX10_fakesOn_0 (by decide) ?_
  refine lv_istore_n (lv' := [(2, Value.int (iI 0)), (0, Value.ref (ma 0)), (1, Value.int (iI c1))]) hx hb dX10_fakesOn_1 rfl hl (by decide) rfl (fun ls hl => ?_)
  refine lv_iconst (v := iI 0) hx hb dX10_fakesOn_2 (by decide) ?_
  refine lv_istore_n (lv' := [(3, Value.int (iI 0)), (2, Value.int (iI 0)), (0, Value.ref (ma 0)), (1, Value.int (iI c1))]) hx hb dX10_fakesOn_3 rfl hl (by decide) rfl (fun ls hl => ?_)
  have h0_1 : rFo R c1 0 = 0 := rfl
  have hP : va_P g vwCl ([moO ma M, arC (ma 1) (τ 0) 291 (flR R)]) H := by first | exact hP | (exact hP)
  have hD : va_D A ([moO ma M, arC (ma 1) (τ 0) 291 (flR R)]) := by first | exact hD | (exact hD)
  refine lp_upX (fun i => [(3, Value.int (iI (i : Int))), (2, Value.int (iI (rFo R c1 i))), (0, Value.ref (ma 0)), (1, Value.int (iI c1))]) (fun i M_2 => [moO ma M_2, arC (ma 1) (τ 0) 291 (flR R)]) (fun i M_2 => AG M M_2) ((R 10 0).toNat) (0) (M) (by omega) hP hD hS (AG_r _) (lv_eq (lv_sub hl [0, 1, 2, 3] rfl) (by show [(3, Value.int (iI 0)), (2, Value.int (iI (rFo R c1 0))), (0, Value.ref (ma 0)), (1, Value.int (iI c1))] = [(3, Value.int (iI 0)), (2, Value.int (iI 0)), (0, Value.ref (ma 0)), (1, Value.int (iI c1))]; rw [h0_1])) (fun i h0_i hi_i M_2 hJ_i ih_4 H locs hP hD hS ls hl => ?_)
  have hfM_2_0 : M_2 0 = M 0 := hJ_i 0 (by decide)
  have hfM_2_5 : M_2 5 = M 5 := hJ_i 5 (by decide)
  have hfM_2_9 : M_2 9 = M 9 := hJ_i 9 (by decide)
  have hfM_2_10 : M_2 10 = M 10 := hJ_i 10 (by decide)
  have hfM_2_11 : M_2 11 = M 11 := hJ_i 11 (by decide)
  have hfM_2_12 : M_2 12 = M 12 := hJ_i 12 (by decide)
  refine lv_iload_n hx hb dX10_fakesOn_4 rfl (lv_at hl 0 rfl) ?_
  refine lv_aload_n hx hb dX10_fakesOn_5 rfl (lv_at hl 2 rfl) ?_
  refine va_get (D := g) (ci := 10) (v := Value.ref (ma 1)) (C := RX10) (T := TX10) (N := 18) hx hb hts in_X10_fakesOn_X10 hown hK.1 hP 0 (rfl) rfl 1 (by decide) (hts _ (List.mem_of_getElem? (i := 1) rfl) : (Cond.fieldLink RX10 7 "CordSealsModel" "now" "[I").before _ s = true) (fun _ h9 => h9) rfl dX10_fakesOn_6 ?_
  refine lv_iconst (v := iI 2) hx hb dX10_fakesOn_9 (by decide) ?_
  refine zf_ald hx hb hK hP 1 (f := flR R) rfl (2) (rfl) (by omega) (by decide) (z := R 10 0) (fl_10) dX10_fakesOn_10 ?_
  have hb_3 := hB 10 0
  refine zi_icmp_ge (tgt := 54) hx hb ⟨by omega, by omega⟩ ⟨by omega, by omega⟩ dX10_fakesOn_11 (by decide) (fun c_4 => ?_) (fun c_4 => ?_)
  · have _ := c_4
    have h0_i : i = (R 10 0).toNat := by omega
    refine lv_iload_n hx hb dX10_fakesOn_54 rfl (lv_at hl 1 rfl) ?_
    exact rw_iret hx hb hr hlocks hP hS (⟨by rw [h0_i], _, (hJ_i), rfl⟩) dX10_fakesOn_55
  · have _ := c_4
    have hl_i : i < (R 10 0).toNat := by omega
    refine lv_iload_n hx hb dX10_fakesOn_14 rfl (lv_at hl 1 rfl) ?_
    refine lv_aload_n hx hb dX10_fakesOn_15 rfl (lv_at hl 2 rfl) ?_
    refine va_get (D := g) (ci := 10) (v := Value.ref (ma 1)) (C := RX10) (T := TX10) (N := 18) hx hb hts in_X10_fakesOn_X10 hown hK.1 hP 0 (rfl) rfl 1 (by decide) (hts _ (List.mem_of_getElem? (i := 1) rfl) : (Cond.fieldLink RX10 7 "CordSealsModel" "now" "[I").before _ s = true) (fun _ h9 => h9) rfl dX10_fakesOn_16 ?_
    refine lv_sipush (v := iI 225) hx hb dX10_fakesOn_19 (by decide) ?_
    refine lv_iload_n hx hb dX10_fakesOn_22 rfl (lv_at hl 0 rfl) ?_
    refine zi_add hx hb dX10_fakesOn_23 ?_
    refine zf_ald hx hb hK hP 1 (f := flR R) rfl (225 + i) (by omega) (by omega) (by decide) (z := R 16 i) (fl_16 (i := i) (by omega) (by omega)) dX10_fakesOn_24 ?_
    have hb_5 := hB 16 i
    refine lv_iload_n hx hb dX10_fakesOn_25 rfl (lv_at hl 3 rfl) ?_
    refine zi_icmp_ne (tgt := 45) hx hb ⟨by omega, by omega⟩ ⟨by omega, by omega⟩ dX10_fakesOn_26 (by decide) (fun c_6 => ?_) (fun c_6 => ?_)
    · have _ := c_6
      refine lv_iconst (v := iI 0) hx hb dX10_fakesOn_45 (by decide) ?_
      refine zi_add hx hb dX10_fakesOn_46 ?_
      refine lv_istore_n (lv' := [(2, Value.int (iI ((rFo R c1 i) + 0))), (3, Value.int (iI (i : Int))), (0, Value.ref (ma 0)), (1, Value.int (iI c1))]) hx hb dX10_fakesOn_47 rfl hl (by decide) rfl (fun ls hl => ?_)
      refine zi_inc (v := ((i + 1 : Nat) : Int)) (lv' := [(3, Value.int (iI ((i + 1 : Nat) : Int))), (2, Value.int (iI ((rFo R c1 i) + 0))), (0, Value.ref (ma 0)), (1, Value.int (iI c1))]) hx hb dX10_fakesOn_48 hl (k := 1) rfl (by omega) (by decide) rfl (fun ls hl => ?_)
      refine lv_goto (tgt := 4) hx hb dX10_fakesOn_51 (by decide) ?_
      have hb_7 : (((i + 1) : Nat) : Int) = ((i + 1 : Nat) : Int) := by first | rfl | omega | (simp [c_4, c_6]; done)
      have hb_8 : rFo R c1 (i + 1) = (rFo R c1 i) + 0 := by unfold rFo; first | (rw [cnt_t (decide_eq_true (by omega))]) | (rw [cnt_f (decide_eq_false (by omega))]; omega)
      exact ih_4 hl_i (M_2) (hJ_i) _ _ _ hP hD hS (lv_eq (lv_sub hl [0, 1, 2, 3] rfl) (by show [(3, Value.int (iI (((i + 1) : Nat) : Int))), (2, Value.int (iI (rFo R c1 (i + 1)))), (0, Value.ref (ma 0)), (1, Value.int (iI c1))] = [(3, Value.int (iI ((i + 1 : Nat) : Int))), (2, Value.int (iI ((rFo R c1 i) + 0))), (0, Value.ref (ma 0)), (1, Value.int (iI c1))]; rw [hb_7, hb_8]))
    · have _ := c_6
      refine lv_aload_n hx hb dX10_fakesOn_29 rfl (lv_at hl 2 rfl) ?_
      refine lv_aload_n hx hb dX10_fakesOn_30 rfl (lv_at hl 2 rfl) ?_
      refine va_get (D := g) (ci := 10) (v := Value.ref (ma 1)) (C := RX10) (T := TX10) (N := 18) hx hb hts in_X10_fakesOn_X10 hown hK.1 hP 0 (rfl) rfl 1 (by decide) (hts _ (List.mem_of_getElem? (i := 1) rfl) : (Cond.fieldLink RX10 7 "CordSealsModel" "now" "[I").before _ s = true) (fun _ h9 => h9) rfl dX10_fakesOn_31 ?_
      refine lv_iload_n hx hb dX10_fakesOn_34 rfl (lv_at hl 0 rfl) ?_
      refine rw_V (As := [Value.ref (ma 1), Value.int (iI (i : Int))]) (rest := [Value.int (iI (rFo R c1 i))]) ⟨hx, hb, hml, hown, hts⟩ (c_X10_fake l g τ ma M_2 (ma 1) R hI i (by omega)) gX10_fakesOn_X10_fake cd_X10_fake rfl rfl ⟨rfl, rfl⟩ ⟨Nat.le_of_ble_eq_true rfl, Nat.le_of_ble_eq_true rfl⟩ hK hP hD hS [0, 1] (rfl) (by decide) 0 rfl rfl rfl rfl hl rfl (Nat.le_of_ble_eq_true rfl) dX10_fakesOn_35 ⟨Nat.le_of_ble_eq_true rfl, Nat.le_of_ble_eq_true rfl⟩ (fun v w h => by obtain ⟨-, M9, -, rfl⟩ := h; rfl) (fun v w1 H locs hZ hP hD hS => ?_)
      obtain ⟨rfl, M_9, hgM_9, rfl⟩ := hZ
      have hP : va_P g vwCl ([moO ma M_9, arC (ma 1) (τ 0) 291 (flR R)]) H := hP
      have hD : va_D A ([moO ma M_9, arC (ma 1) (τ 0) 291 (flR R)]) := hD
      have hfM_9_0 : M_9 0 = M_2 0 := hgM_9 0 (by decide)
      have hfM_9_5 : M_9 5 = M_2 5 := hgM_9 5 (by decide)
      have hfM_9_9 : M_9 9 = M_2 9 := hgM_9 9 (by decide)
      have hfM_9_10 : M_9 10 = M_2 10 := hgM_9 10 (by decide)
      have hfM_9_11 : M_9 11 = M_2 11 := hgM_9 11 (by decide)
      have hfM_9_12 : M_9 12 = M_2 12 := hgM_9 12 (by decide)
      have := rFk_b R i
      refine tl_some ?_
      refine zi_if_le (tgt := 45) hx hb ⟨by omega, by omega⟩ dX10_fakesOn_38 (by decide) (fun c_10 => ?_) (fun c_10 => ?_)
      · have _ := c_10
        refine lv_iconst (v := iI 0) hx hb dX10_fakesOn_45 (by decide) ?_
        refine zi_add hx hb dX10_fakesOn_46 ?_
        refine lv_istore_n (lv' := [(2, Value.int (iI ((rFo R c1 i) + 0))), (3, Value.int (iI (i : Int))), (0, Value.ref (ma 0)), (1, Value.int (iI c1))]) hx hb dX10_fakesOn_47 rfl hl (by decide) rfl (fun ls hl => ?_)
        refine zi_inc (v := ((i + 1 : Nat) : Int)) (lv' := [(3, Value.int (iI ((i + 1 : Nat) : Int))), (2, Value.int (iI ((rFo R c1 i) + 0))), (0, Value.ref (ma 0)), (1, Value.int (iI c1))]) hx hb dX10_fakesOn_48 hl (k := 1) rfl (by omega) (by decide) rfl (fun ls hl => ?_)
        refine lv_goto (tgt := 4) hx hb dX10_fakesOn_51 (by decide) ?_
        have hb_11 : (((i + 1) : Nat) : Int) = ((i + 1 : Nat) : Int) := by first | rfl | omega | (simp [c_4, c_6, c_10]; done)
        have hb_12 : rFo R c1 (i + 1) = (rFo R c1 i) + 0 := by unfold rFo; first | (rw [cnt_t (decide_eq_true (by omega))]) | (rw [cnt_f (decide_eq_false (by omega))]; omega)
        exact ih_4 hl_i (M_9) (AG_t (hJ_i) hgM_9) _ _ _ hP hD hS (lv_eq (lv_sub hl [0, 1, 2, 3] rfl) (by show [(3, Value.int (iI (((i + 1) : Nat) : Int))), (2, Value.int (iI (rFo R c1 (i + 1)))), (0, Value.ref (ma 0)), (1, Value.int (iI c1))] = [(3, Value.int (iI ((i + 1 : Nat) : Int))), (2, Value.int (iI ((rFo R c1 i) + 0))), (0, Value.ref (ma 0)), (1, Value.int (iI c1))]; rw [hb_11, hb_12]))
      · have _ := c_10
        refine lv_iconst (v := iI 1) hx hb dX10_fakesOn_41 (by decide) ?_
        refine lv_goto (tgt := 46) hx hb dX10_fakesOn_42 (by decide) ?_
        refine zi_add hx hb dX10_fakesOn_46 ?_
        refine lv_istore_n (lv' := [(2, Value.int (iI ((rFo R c1 i) + 1))), (3, Value.int (iI (i : Int))), (0, Value.ref (ma 0)), (1, Value.int (iI c1))]) hx hb dX10_fakesOn_47 rfl hl (by decide) rfl (fun ls hl => ?_)
        refine zi_inc (v := ((i + 1 : Nat) : Int)) (lv' := [(3, Value.int (iI ((i + 1 : Nat) : Int))), (2, Value.int (iI ((rFo R c1 i) + 1))), (0, Value.ref (ma 0)), (1, Value.int (iI c1))]) hx hb dX10_fakesOn_48 hl (k := 1) rfl (by omega) (by decide) rfl (fun ls hl => ?_)
        refine lv_goto (tgt := 4) hx hb dX10_fakesOn_51 (by decide) ?_
        have hb_13 : (((i + 1) : Nat) : Int) = ((i + 1 : Nat) : Int) := by first | rfl | omega | (simp [c_4, c_6, c_10]; done)
        have hb_14 : rFo R c1 (i + 1) = (rFo R c1 i) + 1 := by unfold rFo; first | (rw [cnt_t (decide_eq_true (by omega))]) | (rw [cnt_f (decide_eq_false (by omega))]; omega)
        exact ih_4 hl_i (M_9) (AG_t (hJ_i) hgM_9) _ _ _ hP hD hS (lv_eq (lv_sub hl [0, 1, 2, 3] rfl) (by show [(3, Value.int (iI (((i + 1) : Nat) : Int))), (2, Value.int (iI (rFo R c1 (i + 1)))), (0, Value.ref (ma 0)), (1, Value.int (iI c1))] = [(3, Value.int (iI ((i + 1 : Nat) : Int))), (2, Value.int (iI ((rFo R c1 i) + 1))), (0, Value.ref (ma 0)), (1, Value.int (iI c1))]; rw [hb_13, hb_14]))

theorem cd_X10_badCharters : cd yX10_badCharters 0 := by decide +kernel
set_option maxHeartbeats 1000000 in
set_option maxRecDepth 100000 in
theorem c_X10_badCharters (l : Launch) (g : va_G) (τ : Nat → ClassId) (ma : Nat → Nat) (M : Nat → Int) (R : Nat → Nat → Int) (hI : SI R)  : Met l yX10_badCharters wsX10_badCharters { frames := 8, cells := 0, slots := 0, locals := 189 } (va_Pc [Value.ref (ma 0)] (rwW g τ ([moO ma M, arC (ma 1) (τ 0) 291 (flR R)]))) (rwQ g (fun v w => v = some (Value.int (iI (rBc R 6))) ∧ ∃ M2, AG M M2 ∧ w = [moO ma M2, arC (ma 1) (τ 0) 291 (flR R)]) (inW ([moO ma M, arC (ma 1) (τ 0) 291 (flR R)]))) 0 0 (inW ([moO ma M, arC (ma 1) (τ 0) 291 (flR R)])) := by
  have hB := hI.hB
  have hr0 := hI.r
  have hd0 := hI.d
  have hs0 := hI.s
  refine rwMet (cc := cX10_badCharters) (maxL := 3) (ret := (some .int)) (lv := [(0, Value.ref (ma 0))]) (by decide) rfl (Nat.le_of_ble_eq_true rfl) rfl ?_
  intro p e s m below meth c hx hb hr hml hts hown hlocks A H hP hD hS hK ls hl
  refine lv_iconst (v := iI 0) hx hb dX10_badCharters_0 (by decide) ?_
  refine lv_istore_n (lv' := [(1, Value.int (iI 0)), (0, Value.ref (ma 0))]) hx hb dX10_badCharters_1 rfl hl (by decide) rfl (fun ls hl => ?_)
  refine lv_iconst (v := iI 0) hx hb dX10_badCharters_2 (by decide) ?_
  refine lv_istore_n (lv' := [(2, Value.int (iI 0)), (1, Value.int (iI 0)), (0, Value.ref (ma 0))]) hx hb dX10_badCharters_3 rfl hl (by decide) rfl (fun ls hl => ?_)
  have h0_1 : rBc R 0 = 0 := rfl
  have hP : va_P g vwCl ([moO ma M, arC (ma 1) (τ 0) 291 (flR R)]) H := by first | exact hP | (exact hP)
  have hD : va_D A ([moO ma M, arC (ma 1) (τ 0) 291 (flR R)]) := by first | exact hD | (exact hD)
  refine lp_upX (fun i => [(2, Value.int (iI (i : Int))), (1, Value.int (iI (rBc R i))), (0, Value.ref (ma 0))]) (fun i M_2 => [moO ma M_2, arC (ma 1) (τ 0) 291 (flR R)]) (fun i M_2 => AG M M_2) (6) (0) (M) (by omega) hP hD hS (AG_r _) (lv_eq (lv_sub hl [0, 1, 2] rfl) (by show [(2, Value.int (iI 0)), (1, Value.int (iI (rBc R 0))), (0, Value.ref (ma 0))] = [(2, Value.int (iI 0)), (1, Value.int (iI 0)), (0, Value.ref (ma 0))]; rw [h0_1])) (fun i h0_i hi_i M_2 hJ_i ih_4 H locs hP hD hS ls hl => ?_)
  have hfM_2_0 : M_2 0 = M 0 := hJ_i 0 (by decide)
  have hfM_2_5 : M_2 5 = M 5 := hJ_i 5 (by decide)
  have hfM_2_9 : M_2 9 = M 9 := hJ_i 9 (by decide)
  have hfM_2_10 : M_2 10 = M 10 := hJ_i 10 (by decide)
  have hfM_2_11 : M_2 11 = M 11 := hJ_i 11 (by decide)
  have hfM_2_12 : M_2 12 = M 12 := hJ_i 12 (by decide)
  refine lv_iload_n hx hb dX10_badCharters_4 rfl (lv_at hl 0 rfl) ?_
  refine lv_bipush (v := iI 6) hx hb dX10_badCharters_5 (by decide) ?_
  refine zi_icmp_ge (tgt := 32) hx hb ⟨by omega, by omega⟩ ⟨by decide, by decide⟩ dX10_badCharters_7 (by decide) (fun c_3 => ?_) (fun c_3 => ?_)
  · have _ := c_3
    have h0_i : i = 6 := by omega
    refine lv_iload_n hx hb dX10_badCharters_32 rfl (lv_at hl 1 rfl) ?_
    exact rw_iret hx hb hr hlocks hP hS (⟨by rw [h0_i], _, (hJ_i), rfl⟩) dX10_badCharters_33
  · have _ := c_3
    have hl_i : i < 6 := by omega
    refine lv_iload_n hx hb dX10_badCharters_10 rfl (lv_at hl 1 rfl) ?_
    refine lv_aload_n hx hb dX10_badCharters_11 rfl (lv_at hl 2 rfl) ?_
    refine lv_iload_n hx hb dX10_badCharters_12 rfl (lv_at hl 0 rfl) ?_
    refine rw_V (As := [Value.int (iI (i : Int))]) (rest := [Value.int (iI (rBc R i))]) ⟨hx, hb, hml, hown, hts⟩ (c_X10_fakesOn l g τ ma M_2 R hI (i : Int) ⟨by omega, by omega⟩) gX10_badCharters_X10_fakesOn cd_X10_fakesOn rfl rfl ⟨rfl, rfl⟩ ⟨Nat.le_of_ble_eq_true rfl, Nat.le_of_ble_eq_true rfl⟩ hK hP hD hS [0, 1] (rfl) (by decide) 0 rfl rfl rfl rfl hl rfl (Nat.le_of_ble_eq_true rfl) dX10_badCharters_13 ⟨Nat.le_of_ble_eq_true rfl, Nat.le_of_ble_eq_true rfl⟩ (fun v w h => by obtain ⟨-, M9, -, rfl⟩ := h; rfl) (fun v w1 H locs hZ hP hD hS => ?_)
    obtain ⟨rfl, M_4, hgM_4, rfl⟩ := hZ
    have hP : va_P g vwCl ([moO ma M_4, arC (ma 1) (τ 0) 291 (flR R)]) H := hP
    have hD : va_D A ([moO ma M_4, arC (ma 1) (τ 0) 291 (flR R)]) := hD
    have hfM_4_0 : M_4 0 = M_2 0 := hgM_4 0 (by decide)
    have hfM_4_5 : M_4 5 = M_2 5 := hgM_4 5 (by decide)
    have hfM_4_9 : M_4 9 = M_2 9 := hgM_4 9 (by decide)
    have hfM_4_10 : M_4 10 = M_2 10 := hgM_4 10 (by decide)
    have hfM_4_11 : M_4 11 = M_2 11 := hgM_4 11 (by decide)
    have hfM_4_12 : M_4 12 = M_2 12 := hgM_4 12 (by decide)
    have := cnt_le (fun s => decide (R 16 s = (i : Int) ∧ 0 < rFk R s)) (R 10 0).toNat
    have hfo : rFo R (i : Int) (R 10 0).toNat = cnt (fun s => decide (R 16 s = (i : Int) ∧ 0 < rFk R s)) (R 10 0).toNat := rfl
    refine tl_some ?_
    refine zi_if_le (tgt := 23) hx hb ⟨by omega, by omega⟩ dX10_badCharters_16 (by decide) (fun c_5 => ?_) (fun c_5 => ?_)
    · have _ := c_5
      refine lv_iconst (v := iI 0) hx hb dX10_badCharters_23 (by decide) ?_
      refine zi_add hx hb dX10_badCharters_24 ?_
      refine lv_istore_n (lv' := [(1, Value.int (iI ((rBc R i) + 0))), (2, Value.int (iI (i : Int))), (0, Value.ref (ma 0))]) hx hb dX10_badCharters_25 rfl hl (by decide) rfl (fun ls hl => ?_)
      refine zi_inc (v := ((i + 1 : Nat) : Int)) (lv' := [(2, Value.int (iI ((i + 1 : Nat) : Int))), (1, Value.int (iI ((rBc R i) + 0))), (0, Value.ref (ma 0))]) hx hb dX10_badCharters_26 hl (k := 1) rfl (by omega) (by decide) rfl (fun ls hl => ?_)
      refine lv_goto (tgt := 4) hx hb dX10_badCharters_29 (by decide) ?_
      have hb_6 : (((i + 1) : Nat) : Int) = ((i + 1 : Nat) : Int) := by first | rfl | omega | (simp [c_3, c_5]; done)
      have hb_7 : rBc R (i + 1) = (rBc R i) + 0 := by unfold rBc; first | (rw [cnt_t (decide_eq_true (by omega))]) | (rw [cnt_f (decide_eq_false (by omega))]; omega)
      exact ih_4 hl_i (M_4) (AG_t (hJ_i) hgM_4) _ _ _ hP hD hS (lv_eq (lv_sub hl [0, 1, 2] rfl) (by show [(2, Value.int (iI (((i + 1) : Nat) : Int))), (1, Value.int (iI (rBc R (i + 1)))), (0, Value.ref (ma 0))] = [(2, Value.int (iI ((i + 1 : Nat) : Int))), (1, Value.int (iI ((rBc R i) + 0))), (0, Value.ref (ma 0))]; rw [hb_6, hb_7]))
    · have _ := c_5
      refine lv_iconst (v := iI 1) hx hb dX10_badCharters_19 (by decide) ?_
      refine lv_goto (tgt := 24) hx hb dX10_badCharters_20 (by decide) ?_
      refine zi_add hx hb dX10_badCharters_24 ?_
      refine lv_istore_n (lv' := [(1, Value.int (iI ((rBc R i) + 1))), (2, Value.int (iI (i : Int))), (0, Value.ref (ma 0))]) hx hb dX10_badCharters_25 rfl hl (by decide) rfl (fun ls hl => ?_)
      refine zi_inc (v := ((i + 1 : Nat) : Int)) (lv' := [(2, Value.int (iI ((i + 1 : Nat) : Int))), (1, Value.int (iI ((rBc R i) + 1))), (0, Value.ref (ma 0))]) hx hb dX10_badCharters_26 hl (k := 1) rfl (by omega) (by decide) rfl (fun ls hl => ?_)
      refine lv_goto (tgt := 4) hx hb dX10_badCharters_29 (by decide) ?_
      have hb_8 : (((i + 1) : Nat) : Int) = ((i + 1 : Nat) : Int) := by first | rfl | omega | (simp [c_3, c_5]; done)
      have hb_9 : rBc R (i + 1) = (rBc R i) + 1 := by unfold rBc; first | (rw [cnt_t (decide_eq_true (by omega))]) | (rw [cnt_f (decide_eq_false (by omega))]; omega)
      exact ih_4 hl_i (M_4) (AG_t (hJ_i) hgM_4) _ _ _ hP hD hS (lv_eq (lv_sub hl [0, 1, 2] rfl) (by show [(2, Value.int (iI (((i + 1) : Nat) : Int))), (1, Value.int (iI (rBc R (i + 1)))), (0, Value.ref (ma 0))] = [(2, Value.int (iI ((i + 1 : Nat) : Int))), (1, Value.int (iI ((rBc R i) + 1))), (0, Value.ref (ma 0))]; rw [hb_8, hb_9]))

theorem cd_X10_sealsOf : cd yX10_sealsOf 2 := by decide +kernel
theorem in_X10_sealsOf_X10 : ∀ w ∈ wsX100, w ∈ wsX10_sealsOf := by decide +kernel
set_option maxHeartbeats 1000000 in
set_option maxRecDepth 100000 in
theorem c_X10_sealsOf (l : Launch) (g : va_G) (τ : Nat → ClassId) (ma : Nat → Nat) (M : Nat → Int) (R : Nat → Nat → Int) (hI : SI R) (d1 : Int) (rd1 : -2147483648 ≤ d1 ∧ d1 < 2147483648) (f1 : Int) (hf1 : 0 ≤ f1 ∧ f1 ≤ 1)  : Met l yX10_sealsOf wsX10_sealsOf { frames := 7, cells := 0, slots := 0, locals := 166 } (va_Pc [Value.ref (ma 0), Value.int (iI d1), Value.int (iI f1)] (rwW g τ ([moO ma M, arC (ma 1) (τ 0) 291 (flR R)]))) (rwQ g (fun v w => v = some (Value.int (iI (rDf R d1 f1 (R 10 0).toNat))) ∧ ∃ M2, AG M M2 ∧ w = [moO ma M2, arC (ma 1) (τ 0) 291 (flR R)]) (inW ([moO ma M, arC (ma 1) (τ 0) 291 (flR R)]))) 0 0 (inW ([moO ma M, arC (ma 1) (τ 0) 291 (flR R)])) := by
  have hB := hI.hB
  have hr0 := hI.r
  have hd0 := hI.d
  have hs0 := hI.s
  refine rwMet (cc := cX10_sealsOf) (maxL := 5) (ret := (some .int)) (lv := [(0, Value.ref (ma 0)), (1, Value.int (iI d1)), (2, Value.int (iI f1))]) (by decide) rfl (Nat.le_of_ble_eq_true rfl) rfl ?_
  intro p e s m below meth c hx hb hr hml hts hown hlocks A H hP hD hS hK ls hl
  refine lv_iconst (v := iI 0) hx hb dX10_sealsOf_0 (by decide) ?_
  refine lv_istore_n (lv' := [(3, Value.int (iI 0)), (0, Value.ref (ma 0)), (1, Value.int (iI d1)), (2, Value.int (iI f1))]) hx hb dX10_sealsOf_1 rfl hl (by decide) rfl (fun ls hl => ?_)
  refine lv_iconst (v := iI 0) hx hb dX10_sealsOf_2 (by decide) ?_
  refine lv_istore (lv' := [(4, Value.int (iI 0)), (3, Value.int (iI 0)), (0, Value.ref (ma 0)), (1, Value.int (iI d1)), (2, Value.int (iI f1))]) hx hb dX10_sealsOf_3 hl (by decide) rfl (fun ls hl => ?_)
  have h0_1 : rDf R d1 f1 0 = 0 := rfl
  have hP : va_P g vwCl ([moO ma M, arC (ma 1) (τ 0) 291 (flR R)]) H := by first | exact hP | (exact hP)
  have hD : va_D A ([moO ma M, arC (ma 1) (τ 0) 291 (flR R)]) := by first | exact hD | (exact hD)
  refine lp_upX (fun i => [(4, Value.int (iI (i : Int))), (3, Value.int (iI (rDf R d1 f1 i))), (0, Value.ref (ma 0)), (1, Value.int (iI d1)), (2, Value.int (iI f1))]) (fun i M_2 => [moO ma M_2, arC (ma 1) (τ 0) 291 (flR R)]) (fun i M_2 => AG M M_2) ((R 10 0).toNat) (0) (M) (by omega) hP hD hS (AG_r _) (lv_eq (lv_sub hl [0, 1, 2, 3, 4] rfl) (by show [(4, Value.int (iI 0)), (3, Value.int (iI (rDf R d1 f1 0))), (0, Value.ref (ma 0)), (1, Value.int (iI d1)), (2, Value.int (iI f1))] = [(4, Value.int (iI 0)), (3, Value.int (iI 0)), (0, Value.ref (ma 0)), (1, Value.int (iI d1)), (2, Value.int (iI f1))]; rw [h0_1])) (fun i h0_i hi_i M_2 hJ_i ih_5 H locs hP hD hS ls hl => ?_)
  have hfM_2_0 : M_2 0 = M 0 := hJ_i 0 (by decide)
  have hfM_2_5 : M_2 5 = M 5 := hJ_i 5 (by decide)
  have hfM_2_9 : M_2 9 = M 9 := hJ_i 9 (by decide)
  have hfM_2_10 : M_2 10 = M 10 := hJ_i 10 (by decide)
  have hfM_2_11 : M_2 11 = M 11 := hJ_i 11 (by decide)
  have hfM_2_12 : M_2 12 = M 12 := hJ_i 12 (by decide)
  refine lv_iload hx hb dX10_sealsOf_5 (lv_at hl 0 rfl) ?_
  refine lv_aload_n hx hb dX10_sealsOf_7 rfl (lv_at hl 2 rfl) ?_
  refine va_get (D := g) (ci := 10) (v := Value.ref (ma 1)) (C := RX10) (T := TX10) (N := 18) hx hb hts in_X10_sealsOf_X10 hown hK.1 hP 0 (rfl) rfl 1 (by decide) (hts _ (List.mem_of_getElem? (i := 1) rfl) : (Cond.fieldLink RX10 7 "CordSealsModel" "now" "[I").before _ s = true) (fun _ h9 => h9) rfl dX10_sealsOf_8 ?_
  refine lv_iconst (v := iI 2) hx hb dX10_sealsOf_11 (by decide) ?_
  refine zf_ald hx hb hK hP 1 (f := flR R) rfl (2) (rfl) (by omega) (by decide) (z := R 10 0) (fl_10) dX10_sealsOf_12 ?_
  have hb_3 := hB 10 0
  refine zi_icmp_ge (tgt := 61) hx hb ⟨by omega, by omega⟩ ⟨by omega, by omega⟩ dX10_sealsOf_13 (by decide) (fun c_4 => ?_) (fun c_4 => ?_)
  · have _ := c_4
    have h0_i : i = (R 10 0).toNat := by omega
    refine lv_iload_n hx hb dX10_sealsOf_61 rfl (lv_at hl 1 rfl) ?_
    exact rw_iret hx hb hr hlocks hP hS (⟨by rw [h0_i], _, (hJ_i), rfl⟩) dX10_sealsOf_62
  · have _ := c_4
    have hl_i : i < (R 10 0).toNat := by omega
    refine lv_iload_n hx hb dX10_sealsOf_16 rfl (lv_at hl 1 rfl) ?_
    refine lv_aload_n hx hb dX10_sealsOf_17 rfl (lv_at hl 2 rfl) ?_
    refine va_get (D := g) (ci := 10) (v := Value.ref (ma 1)) (C := RX10) (T := TX10) (N := 18) hx hb hts in_X10_sealsOf_X10 hown hK.1 hP 0 (rfl) rfl 1 (by decide) (hts _ (List.mem_of_getElem? (i := 1) rfl) : (Cond.fieldLink RX10 7 "CordSealsModel" "now" "[I").before _ s = true) (fun _ h9 => h9) rfl dX10_sealsOf_18 ?_
    refine lv_bipush (v := iI 105) hx hb dX10_sealsOf_21 (by decide) ?_
    refine lv_iload hx hb dX10_sealsOf_23 (lv_at hl 0 rfl) ?_
    refine zi_add hx hb dX10_sealsOf_25 ?_
    refine zf_ald hx hb hK hP 1 (f := flR R) rfl (105 + i) (by omega) (by omega) (by decide) (z := R 11 i) (fl_11 (i := i) (by omega) (by omega)) dX10_sealsOf_26 ?_
    have hb_5 := hB 11 i
    refine lv_iload_n hx hb dX10_sealsOf_27 rfl (lv_at hl 3 rfl) ?_
    refine zi_icmp_ne (tgt := 52) hx hb ⟨by omega, by omega⟩ ⟨by omega, by omega⟩ dX10_sealsOf_28 (by decide) (fun c_6 => ?_) (fun c_6 => ?_)
    · have _ := c_6
      refine lv_iconst (v := iI 0) hx hb dX10_sealsOf_52 (by decide) ?_
      refine zi_add hx hb dX10_sealsOf_53 ?_
      refine lv_istore_n (lv' := [(3, Value.int (iI ((rDf R d1 f1 i) + 0))), (4, Value.int (iI (i : Int))), (0, Value.ref (ma 0)), (1, Value.int (iI d1)), (2, Value.int (iI f1))]) hx hb dX10_sealsOf_54 rfl hl (by decide) rfl (fun ls hl => ?_)
      refine zi_inc (v := ((i + 1 : Nat) : Int)) (lv' := [(4, Value.int (iI ((i + 1 : Nat) : Int))), (3, Value.int (iI ((rDf R d1 f1 i) + 0))), (0, Value.ref (ma 0)), (1, Value.int (iI d1)), (2, Value.int (iI f1))]) hx hb dX10_sealsOf_55 hl (k := 1) rfl (by omega) (by decide) rfl (fun ls hl => ?_)
      refine lv_goto (tgt := 5) hx hb dX10_sealsOf_58 (by decide) ?_
      have hb_7 : (((i + 1) : Nat) : Int) = ((i + 1 : Nat) : Int) := by first | rfl | omega | (simp [c_4, c_6]; done)
      have hb_8 : rDf R d1 f1 (i + 1) = (rDf R d1 f1 i) + 0 := by unfold rDf; first | (rw [cnt_t (decide_eq_true (by omega))]) | (rw [cnt_f (decide_eq_false (by omega))]; omega)
      exact ih_5 hl_i (M_2) (hJ_i) _ _ _ hP hD hS (lv_eq (lv_sub hl [0, 1, 2, 3, 4] rfl) (by show [(4, Value.int (iI (((i + 1) : Nat) : Int))), (3, Value.int (iI (rDf R d1 f1 (i + 1)))), (0, Value.ref (ma 0)), (1, Value.int (iI d1)), (2, Value.int (iI f1))] = [(4, Value.int (iI ((i + 1 : Nat) : Int))), (3, Value.int (iI ((rDf R d1 f1 i) + 0))), (0, Value.ref (ma 0)), (1, Value.int (iI d1)), (2, Value.int (iI f1))]; rw [hb_7, hb_8]))
    · have _ := c_6
      refine lv_iload_n hx hb dX10_sealsOf_31 rfl (lv_at hl 4 rfl) ?_
      refine zi_if_eq (tgt := 48) hx hb ⟨by omega, by omega⟩ dX10_sealsOf_32 (by decide) (fun c_9 => ?_) (fun c_9 => ?_)
      · have _ := c_9
        refine lv_iconst (v := iI 1) hx hb dX10_sealsOf_48 (by decide) ?_
        refine lv_goto (tgt := 53) hx hb dX10_sealsOf_49 (by decide) ?_
        refine zi_add hx hb dX10_sealsOf_53 ?_
        refine lv_istore_n (lv' := [(3, Value.int (iI ((rDf R d1 f1 i) + 1))), (4, Value.int (iI (i : Int))), (0, Value.ref (ma 0)), (1, Value.int (iI d1)), (2, Value.int (iI f1))]) hx hb dX10_sealsOf_54 rfl hl (by decide) rfl (fun ls hl => ?_)
        refine zi_inc (v := ((i + 1 : Nat) : Int)) (lv' := [(4, Value.int (iI ((i + 1 : Nat) : Int))), (3, Value.int (iI ((rDf R d1 f1 i) + 1))), (0, Value.ref (ma 0)), (1, Value.int (iI d1)), (2, Value.int (iI f1))]) hx hb dX10_sealsOf_55 hl (k := 1) rfl (by omega) (by decide) rfl (fun ls hl => ?_)
        refine lv_goto (tgt := 5) hx hb dX10_sealsOf_58 (by decide) ?_
        have hb_10 : (((i + 1) : Nat) : Int) = ((i + 1 : Nat) : Int) := by first | rfl | omega | (simp [c_4, c_6, c_9]; done)
        have hb_11 : rDf R d1 f1 (i + 1) = (rDf R d1 f1 i) + 1 := by unfold rDf; first | (rw [cnt_t (decide_eq_true (by omega))]) | (rw [cnt_f (decide_eq_false (by omega))]; omega)
        exact ih_5 hl_i (M_2) (hJ_i) _ _ _ hP hD hS (lv_eq (lv_sub hl [0, 1, 2, 3, 4] rfl) (by show [(4, Value.int (iI (((i + 1) : Nat) : Int))), (3, Value.int (iI (rDf R d1 f1 (i + 1)))), (0, Value.ref (ma 0)), (1, Value.int (iI d1)), (2, Value.int (iI f1))] = [(4, Value.int (iI ((i + 1 : Nat) : Int))), (3, Value.int (iI ((rDf R d1 f1 i) + 1))), (0, Value.ref (ma 0)), (1, Value.int (iI d1)), (2, Value.int (iI f1))]; rw [hb_10, hb_11]))
      · have _ := c_9
        refine lv_aload_n hx hb dX10_sealsOf_35 rfl (lv_at hl 2 rfl) ?_
        refine lv_aload_n hx hb dX10_sealsOf_36 rfl (lv_at hl 2 rfl) ?_
        refine va_get (D := g) (ci := 10) (v := Value.ref (ma 1)) (C := RX10) (T := TX10) (N := 18) hx hb hts in_X10_sealsOf_X10 hown hK.1 hP 0 (rfl) rfl 1 (by decide) (hts _ (List.mem_of_getElem? (i := 1) rfl) : (Cond.fieldLink RX10 7 "CordSealsModel" "now" "[I").before _ s = true) (fun _ h9 => h9) rfl dX10_sealsOf_37 ?_
        refine lv_iload hx hb dX10_sealsOf_40 (lv_at hl 0 rfl) ?_
        refine rw_V (As := [Value.ref (ma 1), Value.int (iI (i : Int))]) (rest := [Value.int (iI (rDf R d1 f1 i))]) ⟨hx, hb, hml, hown, hts⟩ (c_X10_fake l g τ ma M_2 (ma 1) R hI i (by omega)) gX10_sealsOf_X10_fake cd_X10_fake rfl rfl ⟨rfl, rfl⟩ ⟨Nat.le_of_ble_eq_true rfl, Nat.le_of_ble_eq_true rfl⟩ hK hP hD hS [0, 1] (rfl) (by decide) 0 rfl rfl rfl rfl hl rfl (Nat.le_of_ble_eq_true rfl) dX10_sealsOf_42 ⟨Nat.le_of_ble_eq_true rfl, Nat.le_of_ble_eq_true rfl⟩ (fun v w h => by obtain ⟨-, M9, -, rfl⟩ := h; rfl) (fun v w1 H locs hZ hP hD hS => ?_)
        obtain ⟨rfl, M_12, hgM_12, rfl⟩ := hZ
        have hP : va_P g vwCl ([moO ma M_12, arC (ma 1) (τ 0) 291 (flR R)]) H := hP
        have hD : va_D A ([moO ma M_12, arC (ma 1) (τ 0) 291 (flR R)]) := hD
        have hfM_12_0 : M_12 0 = M_2 0 := hgM_12 0 (by decide)
        have hfM_12_5 : M_12 5 = M_2 5 := hgM_12 5 (by decide)
        have hfM_12_9 : M_12 9 = M_2 9 := hgM_12 9 (by decide)
        have hfM_12_10 : M_12 10 = M_2 10 := hgM_12 10 (by decide)
        have hfM_12_11 : M_12 11 = M_2 11 := hgM_12 11 (by decide)
        have hfM_12_12 : M_12 12 = M_2 12 := hgM_12 12 (by decide)
        have := rFk_b R i
        refine tl_some ?_
        refine zi_if_le (tgt := 52) hx hb ⟨by omega, by omega⟩ dX10_sealsOf_45 (by decide) (fun c_13 => ?_) (fun c_13 => ?_)
        · have _ := c_13
          refine lv_iconst (v := iI 0) hx hb dX10_sealsOf_52 (by decide) ?_
          refine zi_add hx hb dX10_sealsOf_53 ?_
          refine lv_istore_n (lv' := [(3, Value.int (iI ((rDf R d1 f1 i) + 0))), (4, Value.int (iI (i : Int))), (0, Value.ref (ma 0)), (1, Value.int (iI d1)), (2, Value.int (iI f1))]) hx hb dX10_sealsOf_54 rfl hl (by decide) rfl (fun ls hl => ?_)
          refine zi_inc (v := ((i + 1 : Nat) : Int)) (lv' := [(4, Value.int (iI ((i + 1 : Nat) : Int))), (3, Value.int (iI ((rDf R d1 f1 i) + 0))), (0, Value.ref (ma 0)), (1, Value.int (iI d1)), (2, Value.int (iI f1))]) hx hb dX10_sealsOf_55 hl (k := 1) rfl (by omega) (by decide) rfl (fun ls hl => ?_)
          refine lv_goto (tgt := 5) hx hb dX10_sealsOf_58 (by decide) ?_
          have hb_14 : (((i + 1) : Nat) : Int) = ((i + 1 : Nat) : Int) := by first | rfl | omega | (simp [c_4, c_6, c_9, c_13]; done)
          have hb_15 : rDf R d1 f1 (i + 1) = (rDf R d1 f1 i) + 0 := by unfold rDf; first | (rw [cnt_t (decide_eq_true (by omega))]) | (rw [cnt_f (decide_eq_false (by omega))]; omega)
          exact ih_5 hl_i (M_12) (AG_t (hJ_i) hgM_12) _ _ _ hP hD hS (lv_eq (lv_sub hl [0, 1, 2, 3, 4] rfl) (by show [(4, Value.int (iI (((i + 1) : Nat) : Int))), (3, Value.int (iI (rDf R d1 f1 (i + 1)))), (0, Value.ref (ma 0)), (1, Value.int (iI d1)), (2, Value.int (iI f1))] = [(4, Value.int (iI ((i + 1 : Nat) : Int))), (3, Value.int (iI ((rDf R d1 f1 i) + 0))), (0, Value.ref (ma 0)), (1, Value.int (iI d1)), (2, Value.int (iI f1))]; rw [hb_14, hb_15]))
        · have _ := c_13
          refine lv_iconst (v := iI 1) hx hb dX10_sealsOf_48 (by decide) ?_
          refine lv_goto (tgt := 53) hx hb dX10_sealsOf_49 (by decide) ?_
          refine zi_add hx hb dX10_sealsOf_53 ?_
          refine lv_istore_n (lv' := [(3, Value.int (iI ((rDf R d1 f1 i) + 1))), (4, Value.int (iI (i : Int))), (0, Value.ref (ma 0)), (1, Value.int (iI d1)), (2, Value.int (iI f1))]) hx hb dX10_sealsOf_54 rfl hl (by decide) rfl (fun ls hl => ?_)
          refine zi_inc (v := ((i + 1 : Nat) : Int)) (lv' := [(4, Value.int (iI ((i + 1 : Nat) : Int))), (3, Value.int (iI ((rDf R d1 f1 i) + 1))), (0, Value.ref (ma 0)), (1, Value.int (iI d1)), (2, Value.int (iI f1))]) hx hb dX10_sealsOf_55 hl (k := 1) rfl (by omega) (by decide) rfl (fun ls hl => ?_)
          refine lv_goto (tgt := 5) hx hb dX10_sealsOf_58 (by decide) ?_
          have hb_16 : (((i + 1) : Nat) : Int) = ((i + 1 : Nat) : Int) := by first | rfl | omega | (simp [c_4, c_6, c_9, c_13]; done)
          have hb_17 : rDf R d1 f1 (i + 1) = (rDf R d1 f1 i) + 1 := by unfold rDf; first | (rw [cnt_t (decide_eq_true (by omega))]) | (rw [cnt_f (decide_eq_false (by omega))]; omega)
          exact ih_5 hl_i (M_12) (AG_t (hJ_i) hgM_12) _ _ _ hP hD hS (lv_eq (lv_sub hl [0, 1, 2, 3, 4] rfl) (by show [(4, Value.int (iI (((i + 1) : Nat) : Int))), (3, Value.int (iI (rDf R d1 f1 (i + 1)))), (0, Value.ref (ma 0)), (1, Value.int (iI d1)), (2, Value.int (iI f1))] = [(4, Value.int (iI ((i + 1 : Nat) : Int))), (3, Value.int (iI ((rDf R d1 f1 i) + 1))), (0, Value.ref (ma 0)), (1, Value.int (iI d1)), (2, Value.int (iI f1))]; rw [hb_16, hb_17]))

theorem cd_X10_can : cd yX10_can 2 := by decide +kernel
theorem in_X10_can_X10 : ∀ w ∈ wsX100, w ∈ wsX10_can := by decide +kernel
set_option maxHeartbeats 1000000 in
set_option maxRecDepth 100000 in
theorem c_X10_can (l : Launch) (g : va_G) (τ : Nat → ClassId) (ma : Nat → Nat) (M : Nat → Int) (R : Nat → Nat → Int) (hI : SI R) (s1 : Nat) (hs : (s1 : Int) < R 10 0) (y1 : Int) (ry1 : -2147483648 ≤ y1 ∧ y1 < 2147483648)  : Met l yX10_can wsX10_can { frames := 2, cells := 0, slots := 0, locals := 52 } (va_Pc [Value.ref (ma 0), Value.int (iI (s1 : Int)), Value.int (iI y1)] (roW g τ ([moO ma M, arC (ma 1) (τ 0) 291 (flR R)]))) (roQ (some (Value.int (iI (zB (rCan R s1 y1)))))) 0 0 nof := by
  have hB := hI.hB
  have hr0 := hI.r
  have hd0 := hI.d
  have hs0 := hI.s
  have hsl := hI.sl s1 hs
  have hdl := hI.ds (R 11 s1).toNat (by omega)
  refine roMet (cc := cX10_can) (maxL := 3) (ret := (some .boolean)) (lv := [(0, Value.ref (ma 0)), (1, Value.int (iI (s1 : Int))), (2, Value.int (iI y1))]) (by decide) rfl (Nat.le_of_ble_eq_true rfl) rfl ?_
  intro p e s m below meth c hx hb hr hml hts hown hlocks hP hK ls hl
  refine lv_iload_n hx hb dX10_can_0 rfl (lv_at hl 2 rfl) ?_
  refine lv_i2l (v := (iI y1).toInt64) hx hb dX10_can_1 rfl ?_
  refine cv_l (y := iL y1) (i2l_iL ⟨by omega, by omega⟩) ?_
  refine lv_aload_n hx hb dX10_can_2 rfl (lv_at hl 0 rfl) ?_
  refine va_get (D := g) (ci := 10) (v := Value.ref (ma 1)) (C := RX10) (T := TX10) (N := 18) hx hb hts in_X10_can_X10 hown hK.1 hP 0 (rfl) rfl 1 (by decide) (hts _ (List.mem_of_getElem? (i := 1) rfl) : (Cond.fieldLink RX10 7 "CordSealsModel" "now" "[I").before _ s = true) (fun _ h9 => h9) rfl dX10_can_3 ?_
  refine lv_iload_n hx hb dX10_can_6 rfl (lv_at hl 1 rfl) ?_
  refine ro_S (As := [Value.ref (ma 1), Value.int (iI (s1 : Int))]) (rest := [Value.long (iL y1)]) (v := some (Value.int (iI (sLo R s1)))) ⟨hx, hb, hml, hown, hts⟩ (c_X10_lowOf l g τ (ma 1) R hI s1 (by omega)) gX10_can_X10_lowOf cd_X10_lowOf rfl ⟨rfl, rfl⟩ ⟨Nat.le_of_ble_eq_true rfl, Nat.le_of_ble_eq_true rfl⟩ hK (cut_P (is := [1]) hP rfl) rfl hl rfl (Nat.le_of_ble_eq_true rfl) dX10_can_7 ⟨Nat.le_of_ble_eq_true rfl, Nat.le_of_ble_eq_true rfl⟩ ?_
  refine tl_some ?_
  have := sLo_b hI s1
  refine lv_i2l (v := (iI (sLo R s1)).toInt64) hx hb dX10_can_10 rfl ?_
  refine cv_l (y := iL (sLo R s1)) (i2l_iL ⟨by omega, by omega⟩) ?_
  refine lv_aload_n hx hb dX10_can_11 rfl (lv_at hl 0 rfl) ?_
  refine va_get (D := g) (ci := 10) (v := Value.ref (ma 1)) (C := RX10) (T := TX10) (N := 18) hx hb hts in_X10_can_X10 hown hK.1 hP 0 (rfl) rfl 1 (by decide) (hts _ (List.mem_of_getElem? (i := 1) rfl) : (Cond.fieldLink RX10 7 "CordSealsModel" "now" "[I").before _ s = true) (fun _ h9 => h9) rfl dX10_can_12 ?_
  refine lv_iload_n hx hb dX10_can_15 rfl (lv_at hl 1 rfl) ?_
  refine ro_S (As := [Value.ref (ma 1), Value.int (iI (s1 : Int))]) (rest := [Value.long (iL (sLo R s1)), Value.long (iL y1)]) (v := some (Value.int (iI (sHi R s1)))) ⟨hx, hb, hml, hown, hts⟩ (c_X10_highOf l g τ (ma 1) R hI s1 (by omega)) gX10_can_X10_highOf cd_X10_highOf rfl ⟨rfl, rfl⟩ ⟨Nat.le_of_ble_eq_true rfl, Nat.le_of_ble_eq_true rfl⟩ hK (cut_P (is := [1]) hP rfl) rfl hl rfl (Nat.le_of_ble_eq_true rfl) dX10_can_16 ⟨Nat.le_of_ble_eq_true rfl, Nat.le_of_ble_eq_true rfl⟩ ?_
  refine tl_some ?_
  have := sHi_b hI s1
  refine lv_i2l (v := (iI (sHi R s1)).toInt64) hx hb dX10_can_19 rfl ?_
  refine cv_l (y := iL (sHi R s1)) (i2l_iL ⟨by omega, by omega⟩) ?_
  refine ro_S (As := [Value.long (iL y1), Value.long (iL (sLo R s1)), Value.long (iL (sHi R s1))]) (rest := []) (v := some (Value.int (iI (zB (decide ((sLo R s1) ≤ y1 ∧ y1 ≤ (sHi R s1))))))) ⟨hx, hb, hml, hown, hts⟩ (c_X10_in l g τ y1 (sLo R s1) (sHi R s1) ⟨by omega, by omega⟩ ⟨by omega, by omega⟩ ⟨by omega, by omega⟩) gX10_can_X10_in cd_X10_in rfl ⟨rfl, rfl⟩ ⟨Nat.le_of_ble_eq_true rfl, Nat.le_of_ble_eq_true rfl⟩ hK (fun _ _ h => by cases h) rfl hl rfl (Nat.le_of_ble_eq_true rfl) dX10_can_20 ⟨Nat.le_of_ble_eq_true rfl, Nat.le_of_ble_eq_true rfl⟩ ?_
  refine tl_some ?_
  refine zb_if_eq (tgt := 52) hx hb dX10_can_23 (by decide) (fun c_1 => ?_) (fun c_1 => ?_)
  · have cd_c_1 := of_decide_eq_false c_1
    refine lv_iconst (v := iI 0) hx hb dX10_can_52 (by decide) ?_
    exact zo_zret hx hb hr hlocks (by unfold rCan; first | (rw [decide_eq_true (by omega), decide_eq_true (by omega)]; rfl) | (rw [decide_eq_true (p := sLo R s1 ≤ y1 ∧ y1 ≤ sHi R s1) (by omega), decide_eq_false (by omega)]; rfl) | (rw [decide_eq_false (by omega)]; rfl)) dX10_can_53
  · have cd_c_1 := of_decide_eq_true c_1
    refine lv_aload_n hx hb dX10_can_26 rfl (lv_at hl 0 rfl) ?_
    refine va_get (D := g) (ci := 10) (v := Value.ref (ma 1)) (C := RX10) (T := TX10) (N := 18) hx hb hts in_X10_can_X10 hown hK.1 hP 0 (rfl) rfl 1 (by decide) (hts _ (List.mem_of_getElem? (i := 1) rfl) : (Cond.fieldLink RX10 7 "CordSealsModel" "now" "[I").before _ s = true) (fun _ h9 => h9) rfl dX10_can_27 ?_
    refine lv_iload_n hx hb dX10_can_30 rfl (lv_at hl 2 rfl) ?_
    refine lv_iload_n hx hb dX10_can_31 rfl (lv_at hl 2 rfl) ?_
    refine lv_aload_n hx hb dX10_can_32 rfl (lv_at hl 0 rfl) ?_
    refine va_get (D := g) (ci := 10) (v := Value.ref (ma 1)) (C := RX10) (T := TX10) (N := 18) hx hb hts in_X10_can_X10 hown hK.1 hP 0 (rfl) rfl 1 (by decide) (hts _ (List.mem_of_getElem? (i := 1) rfl) : (Cond.fieldLink RX10 7 "CordSealsModel" "now" "[I").before _ s = true) (fun _ h9 => h9) rfl dX10_can_33 ?_
    refine lv_iload_n hx hb dX10_can_36 rfl (lv_at hl 1 rfl) ?_
    refine ro_S (As := [Value.ref (ma 1), Value.int (iI (s1 : Int))]) (rest := [Value.int (iI y1), Value.int (iI y1), Value.ref (ma 1)]) (v := some (Value.int (iI (rMask R s1)))) ⟨hx, hb, hml, hown, hts⟩ (c_X10_maskOf l g τ (ma 1) R hI s1 (by omega)) gX10_can_X10_maskOf cd_X10_maskOf rfl ⟨rfl, rfl⟩ ⟨Nat.le_of_ble_eq_true rfl, Nat.le_of_ble_eq_true rfl⟩ hK (cut_P (is := [1]) hP rfl) rfl hl rfl (Nat.le_of_ble_eq_true rfl) dX10_can_37 ⟨Nat.le_of_ble_eq_true rfl, Nat.le_of_ble_eq_true rfl⟩ ?_
    refine tl_some ?_
    have := rMask_8 (hI.sl s1 (by omega)).2.2.1
    refine lv_iconst (v := iI 2) hx hb dX10_can_40 (by decide) ?_
    refine ro_S (As := [Value.ref (ma 1), Value.int (iI y1), Value.int (iI y1), Value.int (iI (rMask R s1)), Value.int (iI 2)]) (rest := []) (v := some (Value.int (iI (rY R y1 y1 (rMask R s1) 2)))) ⟨hx, hb, hml, hown, hts⟩ (c_X10_years l g τ (ma 1) R hI y1 y1 (rMask R s1) 2 (by omega) (by omega) (by omega) (by omega)) gX10_can_X10_years cd_X10_years rfl ⟨rfl, rfl⟩ ⟨Nat.le_of_ble_eq_true rfl, Nat.le_of_ble_eq_true rfl⟩ hK (cut_P (is := [1]) hP rfl) rfl hl rfl (Nat.le_of_ble_eq_true rfl) dX10_can_41 ⟨Nat.le_of_ble_eq_true rfl, Nat.le_of_ble_eq_true rfl⟩ ?_
    refine tl_some ?_
    have := rY_b hI (lo := y1) (hi := y1) (w := (rMask R s1)) (by omega) (by omega) 2
    refine lv_iconst (v := iI 1) hx hb dX10_can_44 (by decide) ?_
    refine zi_icmp_ne (tgt := 52) hx hb ⟨by omega, by omega⟩ ⟨by decide, by decide⟩ dX10_can_45 (by decide) (fun c_2 => ?_) (fun c_2 => ?_)
    · have _ := c_2
      refine lv_iconst (v := iI 0) hx hb dX10_can_52 (by decide) ?_
      exact zo_zret hx hb hr hlocks (by unfold rCan; first | (rw [decide_eq_true (by omega), decide_eq_true (by omega)]; rfl) | (rw [decide_eq_true (p := sLo R s1 ≤ y1 ∧ y1 ≤ sHi R s1) (by omega), decide_eq_false (by omega)]; rfl) | (rw [decide_eq_false (by omega)]; rfl)) dX10_can_53
    · have _ := c_2
      refine lv_iconst (v := iI 1) hx hb dX10_can_48 (by decide) ?_
      refine lv_goto (tgt := 53) hx hb dX10_can_49 (by decide) ?_
      exact zo_zret hx hb hr hlocks (by unfold rCan; first | (rw [decide_eq_true (by omega), decide_eq_true (by omega)]; rfl) | (rw [decide_eq_true (p := sLo R s1 ≤ y1 ∧ y1 ≤ sHi R s1) (by omega), decide_eq_false (by omega)]; rfl) | (rw [decide_eq_false (by omega)]; rfl)) dX10_can_53

theorem cd_X10_about : cd yX10_about 1 := by decide +kernel
theorem in_X10_about_X10 : ∀ w ∈ wsX100, w ∈ wsX10_about := by decide +kernel
set_option maxHeartbeats 1000000 in
set_option maxRecDepth 100000 in
theorem c_X10_about (l : Launch) (g : va_G) (τ : Nat → ClassId) (ma : Nat → Nat) (M : Nat → Int) (R : Nat → Nat → Int) (hI : SI R) (w1 : Int) (rw1 : -2147483648 ≤ w1 ∧ w1 < 2147483648)  : Met l yX10_about wsX10_about { frames := 9, cells := 0, slots := 0, locals := 215 } (va_Pc [Value.ref (ma 0), Value.int (iI w1)] (rwW g τ ([moO ma M, arC (ma 1) (τ 0) 291 (flR R)]))) (rwQ g (fun v w => v = some (Value.int (iI (pAbout R w1).2)) ∧ ∃ M2 : Nat → Int, M2 0 = (pAbout R w1).1 ∧ M2 5 = M 5 ∧ M2 9 = M 9 ∧ w = [moO ma M2, arC (ma 1) (τ 0) 291 (flR R)]) (inW ([moO ma M, arC (ma 1) (τ 0) 291 (flR R)]))) 0 0 (inW ([moO ma M, arC (ma 1) (τ 0) 291 (flR R)])) := by
  have hB := hI.hB
  have hr0 := hI.r
  have hd0 := hI.d
  have hs0 := hI.s
  refine rwMet (cc := cX10_about) (maxL := 2) (ret := (some .int)) (lv := [(0, Value.ref (ma 0)), (1, Value.int (iI w1))]) (by decide) rfl (Nat.le_of_ble_eq_true rfl) rfl ?_
  intro p e s m below meth c hx hb hr hml hts hown hlocks A H hP hD hS hK ls hl
  refine lv_aload_n hx hb dX10_about_0 rfl (lv_at hl 0 rfl) ?_
  refine lv_iload_n hx hb dX10_about_1 rfl (lv_at hl 1 rfl) ?_
  refine lv_i2l (v := (iI w1).toInt64) hx hb dX10_about_2 rfl ?_
  refine cv_l (y := iL w1) (i2l_iL ⟨by omega, by omega⟩) ?_
  refine lv_lconst (v := 0) hx hb dX10_about_3 (by decide) ?_
  refine cv_l (y := iL 0) (by decide) ?_
  refine lv_ldc2 (v := 8) hx hb hown (hts _ (List.mem_of_getElem? (i := 1) rfl)) dX10_about_4 ?_
  refine cv_l (y := iL 8) (by decide) ?_
  refine ro_S (As := [Value.long (iL w1), Value.long (iL 0), Value.long (iL 8)]) (rest := [Value.ref (ma 0)]) (v := some (Value.int (iI (zB (decide (0 ≤ w1 ∧ w1 ≤ 8)))))) ⟨hx, hb, hml, hown, hts⟩ (c_X10_in l g τ w1 0 8 ⟨by omega, by omega⟩ ⟨by omega, by omega⟩ ⟨by omega, by omega⟩) gX10_about_X10_in cd_X10_in rfl ⟨rfl, rfl⟩ ⟨Nat.le_of_ble_eq_true rfl, Nat.le_of_ble_eq_true rfl⟩ hK (fun _ _ h => by cases h) rfl hl rfl (Nat.le_of_ble_eq_true rfl) dX10_about_7 ⟨Nat.le_of_ble_eq_true rfl, Nat.le_of_ble_eq_true rfl⟩ ?_
  refine tl_some ?_
  refine zb_if_eq (tgt := 17) hx hb dX10_about_10 (by decide) (fun c_1 => ?_) (fun c_1 => ?_)
  · have cd_c_1 := of_decide_eq_false c_1
    refine lv_iconst (v := iI 1) hx hb dX10_about_17 (by decide) ?_
    refine rw_V (As := [Value.int (iI 1)]) (rest := []) ⟨hx, hb, hml, hown, hts⟩ (c_X10_refused l g τ ma M 1 ⟨by decide, by decide⟩) gX10_about_X10_refused cd_X10_refused rfl rfl ⟨rfl, rfl⟩ ⟨Nat.le_of_ble_eq_true rfl, Nat.le_of_ble_eq_true rfl⟩ hK hP hD hS [0] (rfl) (by decide) 0 rfl rfl rfl rfl hl rfl (Nat.le_of_ble_eq_true rfl) dX10_about_18 ⟨Nat.le_of_ble_eq_true rfl, Nat.le_of_ble_eq_true rfl⟩ (fun v w h => by rw [h.2]; rfl) (fun v w1 H locs hZ hP hD hS => ?_)
    obtain ⟨rfl, rfl⟩ := hZ
    have hP : va_P g vwCl ([moO ma (updZ M 0 1), arC (ma 1) (τ 0) 291 (flR R)]) H := hP
    have hD : va_D A ([moO ma (updZ M 0 1), arC (ma 1) (τ 0) 291 (flR R)]) := hD
    refine tl_some ?_
    refine cv_i (y := iI 1) (congrArg iI (if_neg (by decide))) ?_
    refine zi_if_eq (tgt := 26) hx hb ⟨by decide, by decide⟩ dX10_about_21 (by decide) (fun c_2 => ?_) (fun c_2 => ?_)
    · exact absurd c_2 (by decide)
    refine lv_iconst (v := iI 0) hx hb dX10_about_24 (by decide) ?_
    exact rw_iret hx hb hr hlocks hP hS (⟨by (refine Eq.symm ?_; unfold pAbout; (try simp only [Int.toNat_natCast]); repeat (first | rw [if_pos (by omega)] | rw [if_neg (by omega)])) <;> first | rfl | (exfalso; omega), (updZ M 0 1), by show 1 = _; (refine Eq.symm ?_; unfold pAbout; (try simp only [Int.toNat_natCast]); repeat (first | rw [if_pos (by omega)] | rw [if_neg (by omega)])) <;> first | rfl | (exfalso; omega), by show M 5 = M 5; first | rfl | omega, by show M 9 = M 9; first | rfl | omega, rfl⟩) dX10_about_25
  · have cd_c_1 := of_decide_eq_true c_1
    refine lv_iconst (v := iI 0) hx hb dX10_about_13 (by decide) ?_
    refine lv_goto (tgt := 18) hx hb dX10_about_14 (by decide) ?_
    refine rw_V (As := [Value.int (iI 0)]) (rest := []) ⟨hx, hb, hml, hown, hts⟩ (c_X10_refused l g τ ma M 0 ⟨by decide, by decide⟩) gX10_about_X10_refused cd_X10_refused rfl rfl ⟨rfl, rfl⟩ ⟨Nat.le_of_ble_eq_true rfl, Nat.le_of_ble_eq_true rfl⟩ hK hP hD hS [0] (rfl) (by decide) 0 rfl rfl rfl rfl hl rfl (Nat.le_of_ble_eq_true rfl) dX10_about_18 ⟨Nat.le_of_ble_eq_true rfl, Nat.le_of_ble_eq_true rfl⟩ (fun v w h => by rw [h.2]; rfl) (fun v w1 H locs hZ hP hD hS => ?_)
    obtain ⟨rfl, rfl⟩ := hZ
    have hP : va_P g vwCl ([moO ma (updZ M 0 0), arC (ma 1) (τ 0) 291 (flR R)]) H := hP
    have hD : va_D A ([moO ma (updZ M 0 0), arC (ma 1) (τ 0) 291 (flR R)]) := hD
    refine tl_some ?_
    refine cv_i (y := iI 0) (congrArg iI (if_pos rfl)) ?_
    refine zi_if_eq (tgt := 26) hx hb ⟨by decide, by decide⟩ dX10_about_21 (by decide) (fun c_3 => ?_) (fun c_3 => ?_)
    · skip
      refine lv_iload_n hx hb dX10_about_26 rfl (lv_at hl 1 rfl) ?_
      by_cases k_4_0 : w1 = 0
      · refine zi_tabl (tgt := 76) (x := w1) k_4_0 hx hb ⟨by decide, by decide⟩ (v := 0) dX10_about_27 (by decide) (by decide) (off := 49) (by decide +kernel) (by decide) ?_
        refine lv_aload_n hx hb dX10_about_76 rfl (lv_at hl 0 rfl) ?_
        refine va_get (D := g) (ci := 10) (v := Value.ref (ma 1)) (C := RX10) (T := TX10) (N := 18) hx hb hts in_X10_about_X10 hown hK.1 hP 0 (rfl) rfl 1 (by decide) (hts _ (List.mem_of_getElem? (i := 2) rfl) : (Cond.fieldLink RX10 7 "CordSealsModel" "now" "[I").before _ s = true) (fun _ h9 => h9) rfl dX10_about_77 ?_
        refine lv_iconst (v := iI 0) hx hb dX10_about_80 (by decide) ?_
        refine zf_ald hx hb hK hP 1 (f := flR R) rfl (0) (rfl) (by omega) (by decide) (z := R 1 0) (fl_1) dX10_about_81 ?_
        have hb_5 := hB 1 0
        exact rw_iret hx hb hr hlocks hP hS (⟨by (refine Eq.symm ?_; unfold pAbout; (try simp only [Int.toNat_natCast]); repeat (first | rw [if_pos (by omega)] | rw [if_neg (by omega)])) <;> first | rfl | (exfalso; omega), (updZ M 0 0), by show 0 = _; (refine Eq.symm ?_; unfold pAbout; (try simp only [Int.toNat_natCast]); repeat (first | rw [if_pos (by omega)] | rw [if_neg (by omega)])) <;> first | rfl | (exfalso; omega), by show M 5 = M 5; first | rfl | omega, by show M 9 = M 9; first | rfl | omega, rfl⟩) dX10_about_82
      by_cases k_4_1 : w1 = 1
      · refine zi_tabl (tgt := 83) (x := w1) k_4_1 hx hb ⟨by decide, by decide⟩ (v := 1) dX10_about_27 (by decide) (by decide) (off := 56) (by decide +kernel) (by decide) ?_
        refine lv_aload_n hx hb dX10_about_83 rfl (lv_at hl 0 rfl) ?_
        refine va_get (D := g) (ci := 10) (v := Value.ref (ma 1)) (C := RX10) (T := TX10) (N := 18) hx hb hts in_X10_about_X10 hown hK.1 hP 0 (rfl) rfl 1 (by decide) (hts _ (List.mem_of_getElem? (i := 2) rfl) : (Cond.fieldLink RX10 7 "CordSealsModel" "now" "[I").before _ s = true) (fun _ h9 => h9) rfl dX10_about_84 ?_
        refine lv_iconst (v := iI 1) hx hb dX10_about_87 (by decide) ?_
        refine zf_ald hx hb hK hP 1 (f := flR R) rfl (1) (rfl) (by omega) (by decide) (z := R 4 0) (fl_4) dX10_about_88 ?_
        have hb_6 := hB 4 0
        exact rw_iret hx hb hr hlocks hP hS (⟨by (refine Eq.symm ?_; unfold pAbout; (try simp only [Int.toNat_natCast]); repeat (first | rw [if_pos (by omega)] | rw [if_neg (by omega)])) <;> first | rfl | (exfalso; omega), (updZ M 0 0), by show 0 = _; (refine Eq.symm ?_; unfold pAbout; (try simp only [Int.toNat_natCast]); repeat (first | rw [if_pos (by omega)] | rw [if_neg (by omega)])) <;> first | rfl | (exfalso; omega), by show M 5 = M 5; first | rfl | omega, by show M 9 = M 9; first | rfl | omega, rfl⟩) dX10_about_89
      by_cases k_4_2 : w1 = 2
      · refine zi_tabl (tgt := 90) (x := w1) k_4_2 hx hb ⟨by decide, by decide⟩ (v := 2) dX10_about_27 (by decide) (by decide) (off := 63) (by decide +kernel) (by decide) ?_
        refine lv_aload_n hx hb dX10_about_90 rfl (lv_at hl 0 rfl) ?_
        refine va_get (D := g) (ci := 10) (v := Value.ref (ma 1)) (C := RX10) (T := TX10) (N := 18) hx hb hts in_X10_about_X10 hown hK.1 hP 0 (rfl) rfl 1 (by decide) (hts _ (List.mem_of_getElem? (i := 2) rfl) : (Cond.fieldLink RX10 7 "CordSealsModel" "now" "[I").before _ s = true) (fun _ h9 => h9) rfl dX10_about_91 ?_
        refine lv_iconst (v := iI 2) hx hb dX10_about_94 (by decide) ?_
        refine zf_ald hx hb hK hP 1 (f := flR R) rfl (2) (rfl) (by omega) (by decide) (z := R 10 0) (fl_10) dX10_about_95 ?_
        have hb_7 := hB 10 0
        exact rw_iret hx hb hr hlocks hP hS (⟨by (refine Eq.symm ?_; unfold pAbout; (try simp only [Int.toNat_natCast]); repeat (first | rw [if_pos (by omega)] | rw [if_neg (by omega)])) <;> first | rfl | (exfalso; omega), (updZ M 0 0), by show 0 = _; (refine Eq.symm ?_; unfold pAbout; (try simp only [Int.toNat_natCast]); repeat (first | rw [if_pos (by omega)] | rw [if_neg (by omega)])) <;> first | rfl | (exfalso; omega), by show M 5 = M 5; first | rfl | omega, by show M 9 = M 9; first | rfl | omega, rfl⟩) dX10_about_96
      by_cases k_4_3 : w1 = 3
      · refine zi_tabl (tgt := 97) (x := w1) k_4_3 hx hb ⟨by decide, by decide⟩ (v := 3) dX10_about_27 (by decide) (by decide) (off := 70) (by decide +kernel) (by decide) ?_
        refine lv_aload_n hx hb dX10_about_97 rfl (lv_at hl 0 rfl) ?_
        refine lv_aload_n hx hb dX10_about_98 rfl (lv_at hl 0 rfl) ?_
        refine va_get (D := g) (ci := 10) (v := Value.ref (ma 1)) (C := RX10) (T := TX10) (N := 18) hx hb hts in_X10_about_X10 hown hK.1 hP 0 (rfl) rfl 1 (by decide) (hts _ (List.mem_of_getElem? (i := 2) rfl) : (Cond.fieldLink RX10 7 "CordSealsModel" "now" "[I").before _ s = true) (fun _ h9 => h9) rfl dX10_about_99 ?_
        refine rw_V (As := [Value.ref (ma 1)]) (rest := []) ⟨hx, hb, hml, hown, hts⟩ (c_X10_fakes l g τ ma (updZ M 0 0) (ma 1) R hI ) gX10_about_X10_fakes cd_X10_fakes rfl rfl ⟨rfl, rfl⟩ ⟨Nat.le_of_ble_eq_true rfl, Nat.le_of_ble_eq_true rfl⟩ hK hP hD hS [0, 1] (rfl) (by decide) 0 rfl rfl rfl rfl hl rfl (Nat.le_of_ble_eq_true rfl) dX10_about_102 ⟨Nat.le_of_ble_eq_true rfl, Nat.le_of_ble_eq_true rfl⟩ (fun v w h => by obtain ⟨-, M9, -, rfl⟩ := h; rfl) (fun v w1 H locs hZ hP hD hS => ?_)
        obtain ⟨rfl, M_8, hgM_8, rfl⟩ := hZ
        have hP : va_P g vwCl ([moO ma M_8, arC (ma 1) (τ 0) 291 (flR R)]) H := hP
        have hD : va_D A ([moO ma M_8, arC (ma 1) (τ 0) 291 (flR R)]) := hD
        have hfM_8_0 : M_8 0 = 0 := hgM_8 0 (by decide)
        have hfM_8_5 : M_8 5 = M 5 := hgM_8 5 (by decide)
        have hfM_8_9 : M_8 9 = M 9 := hgM_8 9 (by decide)
        have hfM_8_10 : M_8 10 = M 10 := hgM_8 10 (by decide)
        have hfM_8_11 : M_8 11 = M 11 := hgM_8 11 (by decide)
        have hfM_8_12 : M_8 12 = M 12 := hgM_8 12 (by decide)
        have := cnt_le (fun s => decide (0 < rFk R s)) (R 10 0).toNat
        have hfks : rFks R (R 10 0).toNat = cnt (fun s => decide (0 < rFk R s)) (R 10 0).toNat := rfl
        refine tl_some ?_
        exact rw_iret hx hb hr hlocks hP hS (⟨by (refine Eq.symm ?_; unfold pAbout; (try simp only [Int.toNat_natCast]); repeat (first | rw [if_pos (by omega)] | rw [if_neg (by omega)])) <;> first | rfl | (exfalso; omega), M_8, by show M_8 0 = _; rw [show M_8 0 = 0 from by omega]; (refine Eq.symm ?_; unfold pAbout; (try simp only [Int.toNat_natCast]); repeat (first | rw [if_pos (by omega)] | rw [if_neg (by omega)])) <;> first | rfl | (exfalso; omega), by show M_8 5 = M 5; first | rfl | omega, by show M_8 9 = M 9; first | rfl | omega, rfl⟩) dX10_about_105
      by_cases k_4_4 : w1 = 4
      · refine zi_tabl (tgt := 120) (x := w1) k_4_4 hx hb ⟨by decide, by decide⟩ (v := 4) dX10_about_27 (by decide) (by decide) (off := 93) (by decide +kernel) (by decide) ?_
        refine lv_aload_n hx hb dX10_about_120 rfl (lv_at hl 0 rfl) ?_
        refine lv_iload_n hx hb dX10_about_121 rfl (lv_at hl 1 rfl) ?_
        refine ro_V (As := [Value.int (iI w1)]) (rest := []) (v := some (Value.int (iI (rCnt R w1 (R 10 0).toNat)))) ⟨hx, hb, hml, hown, hts⟩ (c_X10_countOf l g τ ma (updZ M 0 0) R hI w1 ⟨by omega, by omega⟩) gX10_about_X10_countOf cd_X10_countOf rfl rfl ⟨rfl, rfl⟩ ⟨Nat.le_of_ble_eq_true rfl, Nat.le_of_ble_eq_true rfl⟩ hK (cut_P (is := [0, 1]) hP rfl) 0 rfl rfl rfl rfl hl rfl (Nat.le_of_ble_eq_true rfl) dX10_about_122 ⟨Nat.le_of_ble_eq_true rfl, Nat.le_of_ble_eq_true rfl⟩ ?_
        refine tl_some ?_
        exact rw_iret hx hb hr hlocks hP hS (⟨by (refine Eq.symm ?_; unfold pAbout; (try simp only [Int.toNat_natCast]); repeat (first | rw [if_pos (by omega)] | rw [if_neg (by omega)])) <;> first | rfl | (exfalso; omega), (updZ M 0 0), by show 0 = _; (refine Eq.symm ?_; unfold pAbout; (try simp only [Int.toNat_natCast]); repeat (first | rw [if_pos (by omega)] | rw [if_neg (by omega)])) <;> first | rfl | (exfalso; omega), by show M 5 = M 5; first | rfl | omega, by show M 9 = M 9; first | rfl | omega, rfl⟩) dX10_about_125
      by_cases k_4_5 : w1 = 5
      · refine zi_tabl (tgt := 120) (x := w1) k_4_5 hx hb ⟨by decide, by decide⟩ (v := 5) dX10_about_27 (by decide) (by decide) (off := 93) (by decide +kernel) (by decide) ?_
        refine lv_aload_n hx hb dX10_about_120 rfl (lv_at hl 0 rfl) ?_
        refine lv_iload_n hx hb dX10_about_121 rfl (lv_at hl 1 rfl) ?_
        refine ro_V (As := [Value.int (iI w1)]) (rest := []) (v := some (Value.int (iI (rCnt R w1 (R 10 0).toNat)))) ⟨hx, hb, hml, hown, hts⟩ (c_X10_countOf l g τ ma (updZ M 0 0) R hI w1 ⟨by omega, by omega⟩) gX10_about_X10_countOf cd_X10_countOf rfl rfl ⟨rfl, rfl⟩ ⟨Nat.le_of_ble_eq_true rfl, Nat.le_of_ble_eq_true rfl⟩ hK (cut_P (is := [0, 1]) hP rfl) 0 rfl rfl rfl rfl hl rfl (Nat.le_of_ble_eq_true rfl) dX10_about_122 ⟨Nat.le_of_ble_eq_true rfl, Nat.le_of_ble_eq_true rfl⟩ ?_
        refine tl_some ?_
        exact rw_iret hx hb hr hlocks hP hS (⟨by (refine Eq.symm ?_; unfold pAbout; (try simp only [Int.toNat_natCast]); repeat (first | rw [if_pos (by omega)] | rw [if_neg (by omega)])) <;> first | rfl | (exfalso; omega), (updZ M 0 0), by show 0 = _; (refine Eq.symm ?_; unfold pAbout; (try simp only [Int.toNat_natCast]); repeat (first | rw [if_pos (by omega)] | rw [if_neg (by omega)])) <;> first | rfl | (exfalso; omega), by show M 5 = M 5; first | rfl | omega, by show M 9 = M 9; first | rfl | omega, rfl⟩) dX10_about_125
      by_cases k_4_6 : w1 = 6
      · refine zi_tabl (tgt := 106) (x := w1) k_4_6 hx hb ⟨by decide, by decide⟩ (v := 6) dX10_about_27 (by decide) (by decide) (off := 79) (by decide +kernel) (by decide) ?_
        refine lv_aload_n hx hb dX10_about_106 rfl (lv_at hl 0 rfl) ?_
        refine rw_V (As := []) (rest := []) ⟨hx, hb, hml, hown, hts⟩ (c_X10_badCharters l g τ ma (updZ M 0 0) R hI ) gX10_about_X10_badCharters cd_X10_badCharters rfl rfl ⟨rfl, rfl⟩ ⟨Nat.le_of_ble_eq_true rfl, Nat.le_of_ble_eq_true rfl⟩ hK hP hD hS [0, 1] (rfl) (by decide) 0 rfl rfl rfl rfl hl rfl (Nat.le_of_ble_eq_true rfl) dX10_about_107 ⟨Nat.le_of_ble_eq_true rfl, Nat.le_of_ble_eq_true rfl⟩ (fun v w h => by obtain ⟨-, M9, -, rfl⟩ := h; rfl) (fun v w1 H locs hZ hP hD hS => ?_)
        obtain ⟨rfl, M_9, hgM_9, rfl⟩ := hZ
        have hP : va_P g vwCl ([moO ma M_9, arC (ma 1) (τ 0) 291 (flR R)]) H := hP
        have hD : va_D A ([moO ma M_9, arC (ma 1) (τ 0) 291 (flR R)]) := hD
        have hfM_9_0 : M_9 0 = 0 := hgM_9 0 (by decide)
        have hfM_9_5 : M_9 5 = M 5 := hgM_9 5 (by decide)
        have hfM_9_9 : M_9 9 = M 9 := hgM_9 9 (by decide)
        have hfM_9_10 : M_9 10 = M 10 := hgM_9 10 (by decide)
        have hfM_9_11 : M_9 11 = M 11 := hgM_9 11 (by decide)
        have hfM_9_12 : M_9 12 = M 12 := hgM_9 12 (by decide)
        refine tl_some ?_
        exact rw_iret hx hb hr hlocks hP hS (⟨by (refine Eq.symm ?_; unfold pAbout; (try simp only [Int.toNat_natCast]); repeat (first | rw [if_pos (by omega)] | rw [if_neg (by omega)])) <;> first | rfl | (exfalso; omega), M_9, by show M_9 0 = _; rw [show M_9 0 = 0 from by omega]; (refine Eq.symm ?_; unfold pAbout; (try simp only [Int.toNat_natCast]); repeat (first | rw [if_pos (by omega)] | rw [if_neg (by omega)])) <;> first | rfl | (exfalso; omega), by show M_9 5 = M 5; first | rfl | omega, by show M_9 9 = M 9; first | rfl | omega, rfl⟩) dX10_about_110
      by_cases k_4_7 : w1 = 7
      · refine zi_tabl (tgt := 120) (x := w1) k_4_7 hx hb ⟨by decide, by decide⟩ (v := 7) dX10_about_27 (by decide) (by decide) (off := 93) (by decide +kernel) (by decide) ?_
        refine lv_aload_n hx hb dX10_about_120 rfl (lv_at hl 0 rfl) ?_
        refine lv_iload_n hx hb dX10_about_121 rfl (lv_at hl 1 rfl) ?_
        refine ro_V (As := [Value.int (iI w1)]) (rest := []) (v := some (Value.int (iI (rCnt R w1 (R 10 0).toNat)))) ⟨hx, hb, hml, hown, hts⟩ (c_X10_countOf l g τ ma (updZ M 0 0) R hI w1 ⟨by omega, by omega⟩) gX10_about_X10_countOf cd_X10_countOf rfl rfl ⟨rfl, rfl⟩ ⟨Nat.le_of_ble_eq_true rfl, Nat.le_of_ble_eq_true rfl⟩ hK (cut_P (is := [0, 1]) hP rfl) 0 rfl rfl rfl rfl hl rfl (Nat.le_of_ble_eq_true rfl) dX10_about_122 ⟨Nat.le_of_ble_eq_true rfl, Nat.le_of_ble_eq_true rfl⟩ ?_
        refine tl_some ?_
        exact rw_iret hx hb hr hlocks hP hS (⟨by (refine Eq.symm ?_; unfold pAbout; (try simp only [Int.toNat_natCast]); repeat (first | rw [if_pos (by omega)] | rw [if_neg (by omega)])) <;> first | rfl | (exfalso; omega), (updZ M 0 0), by show 0 = _; (refine Eq.symm ?_; unfold pAbout; (try simp only [Int.toNat_natCast]); repeat (first | rw [if_pos (by omega)] | rw [if_neg (by omega)])) <;> first | rfl | (exfalso; omega), by show M 5 = M 5; first | rfl | omega, by show M 9 = M 9; first | rfl | omega, rfl⟩) dX10_about_125
      by_cases k_4_8 : w1 = 8
      · refine zi_tabl (tgt := 111) (x := w1) k_4_8 hx hb ⟨by decide, by decide⟩ (v := 8) dX10_about_27 (by decide) (by decide) (off := 84) (by decide +kernel) (by decide) ?_
        refine lv_aload_n hx hb dX10_about_111 rfl (lv_at hl 0 rfl) ?_
        refine lv_aload_n hx hb dX10_about_112 rfl (lv_at hl 0 rfl) ?_
        refine va_get (D := g) (ci := 10) (v := Value.ref (ma 1)) (C := RX10) (T := TX10) (N := 18) hx hb hts in_X10_about_X10 hown hK.1 hP 0 (rfl) rfl 1 (by decide) (hts _ (List.mem_of_getElem? (i := 2) rfl) : (Cond.fieldLink RX10 7 "CordSealsModel" "now" "[I").before _ s = true) (fun _ h9 => h9) rfl dX10_about_113 ?_
        refine rw_V (As := [Value.ref (ma 1)]) (rest := []) ⟨hx, hb, hml, hown, hts⟩ (c_X10_bad l g τ ma (updZ M 0 0) (ma 1) R hI ) gX10_about_X10_bad cd_X10_bad rfl rfl ⟨rfl, rfl⟩ ⟨Nat.le_of_ble_eq_true rfl, Nat.le_of_ble_eq_true rfl⟩ hK hP hD hS [0, 1] (rfl) (by decide) 0 rfl rfl rfl rfl hl rfl (Nat.le_of_ble_eq_true rfl) dX10_about_116 ⟨Nat.le_of_ble_eq_true rfl, Nat.le_of_ble_eq_true rfl⟩ (fun v w h => by obtain ⟨-, M9, -, rfl⟩ := h; rfl) (fun v w1 H locs hZ hP hD hS => ?_)
        obtain ⟨rfl, M_10, hgM_10, rfl⟩ := hZ
        have hP : va_P g vwCl ([moO ma M_10, arC (ma 1) (τ 0) 291 (flR R)]) H := hP
        have hD : va_D A ([moO ma M_10, arC (ma 1) (τ 0) 291 (flR R)]) := hD
        have hfM_10_0 : M_10 0 = 0 := hgM_10 0 (by decide)
        have hfM_10_5 : M_10 5 = M 5 := hgM_10 5 (by decide)
        have hfM_10_9 : M_10 9 = M 9 := hgM_10 9 (by decide)
        have hfM_10_10 : M_10 10 = M 10 := hgM_10 10 (by decide)
        have hfM_10_11 : M_10 11 = M 11 := hgM_10 11 (by decide)
        have hfM_10_12 : M_10 12 = M 12 := hgM_10 12 (by decide)
        have := cnt_le (fun h => !(rIs R h (R 18 h).toNat)) 6
        have hbad : rBad R 6 = cnt (fun h => !(rIs R h (R 18 h).toNat)) 6 := rfl
        refine tl_some ?_
        exact rw_iret hx hb hr hlocks hP hS (⟨by (refine Eq.symm ?_; unfold pAbout; (try simp only [Int.toNat_natCast]); repeat (first | rw [if_pos (by omega)] | rw [if_neg (by omega)])) <;> first | rfl | (exfalso; omega), M_10, by show M_10 0 = _; rw [show M_10 0 = 0 from by omega]; (refine Eq.symm ?_; unfold pAbout; (try simp only [Int.toNat_natCast]); repeat (first | rw [if_pos (by omega)] | rw [if_neg (by omega)])) <;> first | rfl | (exfalso; omega), by show M_10 5 = M 5; first | rfl | omega, by show M_10 9 = M 9; first | rfl | omega, rfl⟩) dX10_about_119
      refine zi_tablD (x := w1) (tgt := 120) ⟨by omega, by omega⟩ hx hb dX10_about_27 (by omega) (by decide) ?_
      refine lv_aload_n hx hb dX10_about_120 rfl (lv_at hl 0 rfl) ?_
      refine lv_iload_n hx hb dX10_about_121 rfl (lv_at hl 1 rfl) ?_
      refine ro_V (As := [Value.int (iI w1)]) (rest := []) (v := some (Value.int (iI (rCnt R w1 (R 10 0).toNat)))) ⟨hx, hb, hml, hown, hts⟩ (c_X10_countOf l g τ ma (updZ M 0 0) R hI w1 ⟨by omega, by omega⟩) gX10_about_X10_countOf cd_X10_countOf rfl rfl ⟨rfl, rfl⟩ ⟨Nat.le_of_ble_eq_true rfl, Nat.le_of_ble_eq_true rfl⟩ hK (cut_P (is := [0, 1]) hP rfl) 0 rfl rfl rfl rfl hl rfl (Nat.le_of_ble_eq_true rfl) dX10_about_122 ⟨Nat.le_of_ble_eq_true rfl, Nat.le_of_ble_eq_true rfl⟩ ?_
      refine tl_some ?_
      exact rw_iret hx hb hr hlocks hP hS (⟨by (refine Eq.symm ?_; unfold pAbout; (try simp only [Int.toNat_natCast]); repeat (first | rw [if_pos (by omega)] | rw [if_neg (by omega)])) <;> first | rfl | (exfalso; omega), (updZ M 0 0), by show 0 = _; (refine Eq.symm ?_; unfold pAbout; (try simp only [Int.toNat_natCast]); repeat (first | rw [if_pos (by omega)] | rw [if_neg (by omega)])) <;> first | rfl | (exfalso; omega), by show M 5 = M 5; first | rfl | omega, by show M 9 = M 9; first | rfl | omega, rfl⟩) dX10_about_125
    · exact absurd c_3 (by decide)

theorem cd_X10_ofReign : cd yX10_ofReign 2 := by decide +kernel
theorem in_X10_ofReign_X10 : ∀ w ∈ wsX100, w ∈ wsX10_ofReign := by decide +kernel
set_option maxHeartbeats 1000000 in
set_option maxRecDepth 100000 in
theorem c_X10_ofReign (l : Launch) (g : va_G) (τ : Nat → ClassId) (ma : Nat → Nat) (M : Nat → Int) (R : Nat → Nat → Int) (hI : SI R) (z1 : Int) (rz1 : -2147483648 ≤ z1 ∧ z1 < 2147483648) (w1 : Int) (rw1 : -2147483648 ≤ w1 ∧ w1 < 2147483648)  : Met l yX10_ofReign wsX10_ofReign { frames := 2, cells := 0, slots := 0, locals := 46 } (va_Pc [Value.ref (ma 0), Value.int (iI z1), Value.int (iI w1)] (rwW g τ ([moO ma M, arC (ma 1) (τ 0) 291 (flR R)]))) (rwQ g (fun v w => v = some (Value.int (iI (pReign R z1 w1).2)) ∧ ∃ M2 : Nat → Int, M2 0 = (pReign R z1 w1).1 ∧ M2 5 = M 5 ∧ M2 9 = M 9 ∧ w = [moO ma M2, arC (ma 1) (τ 0) 291 (flR R)]) (inW ([moO ma M, arC (ma 1) (τ 0) 291 (flR R)]))) 0 0 (inW ([moO ma M, arC (ma 1) (τ 0) 291 (flR R)])) := by
  have hB := hI.hB
  have hr0 := hI.r
  have hd0 := hI.d
  have hs0 := hI.s
  refine rwMet (cc := cX10_ofReign) (maxL := 3) (ret := (some .int)) (lv := [(0, Value.ref (ma 0)), (1, Value.int (iI z1)), (2, Value.int (iI w1))]) (by decide) rfl (Nat.le_of_ble_eq_true rfl) rfl ?_
  intro p e s m below meth c hx hb hr hml hts hown hlocks A H hP hD hS hK ls hl
  refine lv_aload_n hx hb dX10_ofReign_0 rfl (lv_at hl 0 rfl) ?_
  refine lv_aload_n hx hb dX10_ofReign_1 rfl (lv_at hl 0 rfl) ?_
  refine va_get (D := g) (ci := 10) (v := Value.ref (ma 1)) (C := RX10) (T := TX10) (N := 18) hx hb hts in_X10_ofReign_X10 hown hK.1 hP 0 (rfl) rfl 1 (by decide) (hts _ (List.mem_of_getElem? (i := 1) rfl) : (Cond.fieldLink RX10 7 "CordSealsModel" "now" "[I").before _ s = true) (fun _ h9 => h9) rfl dX10_ofReign_2 ?_
  refine lv_iload_n hx hb dX10_ofReign_5 rfl (lv_at hl 1 rfl) ?_
  refine ro_S (As := [Value.ref (ma 1), Value.int (iI z1)]) (rest := [Value.ref (ma 0)]) (v := some (Value.int (iI (zB (decide (0 ≤ z1 ∧ z1 ≤ R 1 0 - 1)))))) ⟨hx, hb, hml, hown, hts⟩ (c_X10_hasReign l g τ (ma 1) R hI z1 ⟨by omega, by omega⟩) gX10_ofReign_X10_hasReign cd_X10_hasReign rfl ⟨rfl, rfl⟩ ⟨Nat.le_of_ble_eq_true rfl, Nat.le_of_ble_eq_true rfl⟩ hK (cut_P (is := [1]) hP rfl) rfl hl rfl (Nat.le_of_ble_eq_true rfl) dX10_ofReign_6 ⟨Nat.le_of_ble_eq_true rfl, Nat.le_of_ble_eq_true rfl⟩ ?_
  refine tl_some ?_
  refine zb_if_ne (tgt := 16) hx hb dX10_ofReign_9 (by decide) (fun c_1 => ?_) (fun c_1 => ?_)
  · have cd_c_1 := of_decide_eq_true c_1
    refine lv_iload_n hx hb dX10_ofReign_16 rfl (lv_at hl 2 rfl) ?_
    refine lv_i2l (v := (iI w1).toInt64) hx hb dX10_ofReign_17 rfl ?_
    refine cv_l (y := iL w1) (i2l_iL ⟨by omega, by omega⟩) ?_
    refine lv_lconst (v := 0) hx hb dX10_ofReign_18 (by decide) ?_
    refine cv_l (y := iL 0) (by decide) ?_
    refine lv_ldc2 (v := 2) hx hb hown (hts _ (List.mem_of_getElem? (i := 2) rfl)) dX10_ofReign_19 ?_
    refine cv_l (y := iL 2) (by decide) ?_
    refine ro_S (As := [Value.long (iL w1), Value.long (iL 0), Value.long (iL 2)]) (rest := [Value.ref (ma 0)]) (v := some (Value.int (iI (zB (decide (0 ≤ w1 ∧ w1 ≤ 2)))))) ⟨hx, hb, hml, hown, hts⟩ (c_X10_in l g τ w1 0 2 ⟨by omega, by omega⟩ ⟨by omega, by omega⟩ ⟨by omega, by omega⟩) gX10_ofReign_X10_in cd_X10_in rfl ⟨rfl, rfl⟩ ⟨Nat.le_of_ble_eq_true rfl, Nat.le_of_ble_eq_true rfl⟩ hK (fun _ _ h => by cases h) rfl hl rfl (Nat.le_of_ble_eq_true rfl) dX10_ofReign_22 ⟨Nat.le_of_ble_eq_true rfl, Nat.le_of_ble_eq_true rfl⟩ ?_
    refine tl_some ?_
    refine zb_if_ne (tgt := 32) hx hb dX10_ofReign_25 (by decide) (fun c_2 => ?_) (fun c_2 => ?_)
    · have cd_c_2 := of_decide_eq_true c_2
      refine lv_iconst (v := iI 0) hx hb dX10_ofReign_32 (by decide) ?_
      refine rw_V (As := [Value.int (iI 0)]) (rest := []) ⟨hx, hb, hml, hown, hts⟩ (c_X10_refused l g τ ma M 0 ⟨by decide, by decide⟩) gX10_ofReign_X10_refused cd_X10_refused rfl rfl ⟨rfl, rfl⟩ ⟨Nat.le_of_ble_eq_true rfl, Nat.le_of_ble_eq_true rfl⟩ hK hP hD hS [0] (rfl) (by decide) 0 rfl rfl rfl rfl hl rfl (Nat.le_of_ble_eq_true rfl) dX10_ofReign_33 ⟨Nat.le_of_ble_eq_true rfl, Nat.le_of_ble_eq_true rfl⟩ (fun v w h => by rw [h.2]; rfl) (fun v w1 H locs hZ hP hD hS => ?_)
      obtain ⟨rfl, rfl⟩ := hZ
      have hP : va_P g vwCl ([moO ma (updZ M 0 0), arC (ma 1) (τ 0) 291 (flR R)]) H := hP
      have hD : va_D A ([moO ma (updZ M 0 0), arC (ma 1) (τ 0) 291 (flR R)]) := hD
      refine tl_some ?_
      refine cv_i (y := iI 0) (congrArg iI (if_pos rfl)) ?_
      refine zi_if_eq (tgt := 41) hx hb ⟨by decide, by decide⟩ dX10_ofReign_36 (by decide) (fun c_3 => ?_) (fun c_3 => ?_)
      · skip
        obtain ⟨r1, rfl⟩ := Int.eq_ofNat_of_zero_le (show 0 ≤ z1 by omega)
        refine lv_iload_n hx hb dX10_ofReign_41 rfl (lv_at hl 2 rfl) ?_
        refine zi_if_ne (tgt := 56) hx hb ⟨by omega, by omega⟩ dX10_ofReign_42 (by decide) (fun c_4 => ?_) (fun c_4 => ?_)
        · have _ := c_4
          refine lv_iload_n hx hb dX10_ofReign_56 rfl (lv_at hl 2 rfl) ?_
          refine lv_iconst (v := iI 1) hx hb dX10_ofReign_57 (by decide) ?_
          refine zi_icmp_ne (tgt := 72) hx hb ⟨by omega, by omega⟩ ⟨by decide, by decide⟩ dX10_ofReign_58 (by decide) (fun c_5 => ?_) (fun c_5 => ?_)
          · have _ := c_5
            refine lv_aload_n hx hb dX10_ofReign_72 rfl (lv_at hl 0 rfl) ?_
            refine va_get (D := g) (ci := 10) (v := Value.ref (ma 1)) (C := RX10) (T := TX10) (N := 18) hx hb hts in_X10_ofReign_X10 hown hK.1 hP 0 (rfl) rfl 1 (by decide) (hts _ (List.mem_of_getElem? (i := 1) rfl) : (Cond.fieldLink RX10 7 "CordSealsModel" "now" "[I").before _ s = true) (fun _ h9 => h9) rfl dX10_ofReign_73 ?_
            refine lv_bipush (v := iI 15) hx hb dX10_ofReign_76 (by decide) ?_
            refine lv_iload_n hx hb dX10_ofReign_78 rfl (lv_at hl 1 rfl) ?_
            refine zi_add hx hb dX10_ofReign_79 ?_
            refine zf_ald hx hb hK hP 1 (f := flR R) rfl (15 + r1) (by omega) (by omega) (by decide) (z := R 3 r1) (fl_3 (i := r1) (by omega) (by omega)) dX10_ofReign_80 ?_
            have hb_6 := hB 3 r1
            exact rw_iret hx hb hr hlocks hP hS (⟨by (refine Eq.symm ?_; unfold pReign; (try simp only [Int.toNat_natCast]); repeat (first | rw [if_pos (by omega)] | rw [if_neg (by omega)])) <;> first | rfl | (exfalso; omega), (updZ M 0 0), by show 0 = _; (refine Eq.symm ?_; unfold pReign; (try simp only [Int.toNat_natCast]); repeat (first | rw [if_pos (by omega)] | rw [if_neg (by omega)])) <;> first | rfl | (exfalso; omega), by show M 5 = M 5; first | rfl | omega, by show M 9 = M 9; first | rfl | omega, rfl⟩) dX10_ofReign_81
          · have _ := c_5
            refine lv_aload_n hx hb dX10_ofReign_61 rfl (lv_at hl 0 rfl) ?_
            refine va_get (D := g) (ci := 10) (v := Value.ref (ma 1)) (C := RX10) (T := TX10) (N := 18) hx hb hts in_X10_ofReign_X10 hown hK.1 hP 0 (rfl) rfl 1 (by decide) (hts _ (List.mem_of_getElem? (i := 1) rfl) : (Cond.fieldLink RX10 7 "CordSealsModel" "now" "[I").before _ s = true) (fun _ h9 => h9) rfl dX10_ofReign_62 ?_
            refine lv_iload_n hx hb dX10_ofReign_65 rfl (lv_at hl 1 rfl) ?_
            refine ro_S (As := [Value.ref (ma 1), Value.int (iI (r1 : Int))]) (rest := []) (v := some (Value.int (iI (kLast R (R 1 0).toNat (r1 + 1))))) ⟨hx, hb, hml, hown, hts⟩ (c_X10_ends l g τ (ma 1) R hI r1 (by omega)) gX10_ofReign_X10_ends cd_X10_ends rfl ⟨rfl, rfl⟩ ⟨Nat.le_of_ble_eq_true rfl, Nat.le_of_ble_eq_true rfl⟩ hK (cut_P (is := [1]) hP rfl) rfl hl rfl (Nat.le_of_ble_eq_true rfl) dX10_ofReign_66 ⟨Nat.le_of_ble_eq_true rfl, Nat.le_of_ble_eq_true rfl⟩ ?_
            refine tl_some ?_
            have := kLast_b hI.hB (R 1 0).toNat (r1 + 1)
            refine lv_goto (tgt := 81) hx hb dX10_ofReign_69 (by decide) ?_
            exact rw_iret hx hb hr hlocks hP hS (⟨by (refine Eq.symm ?_; unfold pReign; (try simp only [Int.toNat_natCast]); repeat (first | rw [if_pos (by omega)] | rw [if_neg (by omega)])) <;> first | rfl | (exfalso; omega), (updZ M 0 0), by show 0 = _; (refine Eq.symm ?_; unfold pReign; (try simp only [Int.toNat_natCast]); repeat (first | rw [if_pos (by omega)] | rw [if_neg (by omega)])) <;> first | rfl | (exfalso; omega), by show M 5 = M 5; first | rfl | omega, by show M 9 = M 9; first | rfl | omega, rfl⟩) dX10_ofReign_81
        · have _ := c_4
          refine lv_aload_n hx hb dX10_ofReign_45 rfl (lv_at hl 0 rfl) ?_
          refine va_get (D := g) (ci := 10) (v := Value.ref (ma 1)) (C := RX10) (T := TX10) (N := 18) hx hb hts in_X10_ofReign_X10 hown hK.1 hP 0 (rfl) rfl 1 (by decide) (hts _ (List.mem_of_getElem? (i := 1) rfl) : (Cond.fieldLink RX10 7 "CordSealsModel" "now" "[I").before _ s = true) (fun _ h9 => h9) rfl dX10_ofReign_46 ?_
          refine lv_iconst (v := iI 5) hx hb dX10_ofReign_49 (by decide) ?_
          refine lv_iload_n hx hb dX10_ofReign_50 rfl (lv_at hl 1 rfl) ?_
          refine zi_add hx hb dX10_ofReign_51 ?_
          refine zf_ald hx hb hK hP 1 (f := flR R) rfl (5 + r1) (by omega) (by omega) (by decide) (z := R 2 r1) (fl_2 (i := r1) (by omega) (by omega)) dX10_ofReign_52 ?_
          have hb_7 := hB 2 r1
          refine lv_goto (tgt := 81) hx hb dX10_ofReign_53 (by decide) ?_
          exact rw_iret hx hb hr hlocks hP hS (⟨by (refine Eq.symm ?_; unfold pReign; (try simp only [Int.toNat_natCast]); repeat (first | rw [if_pos (by omega)] | rw [if_neg (by omega)])) <;> first | rfl | (exfalso; omega), (updZ M 0 0), by show 0 = _; (refine Eq.symm ?_; unfold pReign; (try simp only [Int.toNat_natCast]); repeat (first | rw [if_pos (by omega)] | rw [if_neg (by omega)])) <;> first | rfl | (exfalso; omega), by show M 5 = M 5; first | rfl | omega, by show M 9 = M 9; first | rfl | omega, rfl⟩) dX10_ofReign_81
      · exact absurd c_3 (by decide)
    · have cd_c_2 := of_decide_eq_false c_2
      refine lv_iconst (v := iI 2) hx hb dX10_ofReign_28 (by decide) ?_
      refine lv_goto (tgt := 33) hx hb dX10_ofReign_29 (by decide) ?_
      refine rw_V (As := [Value.int (iI 2)]) (rest := []) ⟨hx, hb, hml, hown, hts⟩ (c_X10_refused l g τ ma M 2 ⟨by decide, by decide⟩) gX10_ofReign_X10_refused cd_X10_refused rfl rfl ⟨rfl, rfl⟩ ⟨Nat.le_of_ble_eq_true rfl, Nat.le_of_ble_eq_true rfl⟩ hK hP hD hS [0] (rfl) (by decide) 0 rfl rfl rfl rfl hl rfl (Nat.le_of_ble_eq_true rfl) dX10_ofReign_33 ⟨Nat.le_of_ble_eq_true rfl, Nat.le_of_ble_eq_true rfl⟩ (fun v w h => by rw [h.2]; rfl) (fun v w1 H locs hZ hP hD hS => ?_)
      obtain ⟨rfl, rfl⟩ := hZ
      have hP : va_P g vwCl ([moO ma (updZ M 0 2), arC (ma 1) (τ 0) 291 (flR R)]) H := hP
      have hD : va_D A ([moO ma (updZ M 0 2), arC (ma 1) (τ 0) 291 (flR R)]) := hD
      refine tl_some ?_
      refine cv_i (y := iI 1) (congrArg iI (if_neg (by decide))) ?_
      refine zi_if_eq (tgt := 41) hx hb ⟨by decide, by decide⟩ dX10_ofReign_36 (by decide) (fun c_8 => ?_) (fun c_8 => ?_)
      · exact absurd c_8 (by decide)
      refine lv_iconst (v := iI 0) hx hb dX10_ofReign_39 (by decide) ?_
      exact rw_iret hx hb hr hlocks hP hS (⟨by (refine Eq.symm ?_; unfold pReign; (try simp only [Int.toNat_natCast]); repeat (first | rw [if_pos (by omega)] | rw [if_neg (by omega)])) <;> first | rfl | (exfalso; omega), (updZ M 0 2), by show 2 = _; (refine Eq.symm ?_; unfold pReign; (try simp only [Int.toNat_natCast]); repeat (first | rw [if_pos (by omega)] | rw [if_neg (by omega)])) <;> first | rfl | (exfalso; omega), by show M 5 = M 5; first | rfl | omega, by show M 9 = M 9; first | rfl | omega, rfl⟩) dX10_ofReign_40
  · have cd_c_1 := of_decide_eq_false c_1
    refine lv_iconst (v := iI 1) hx hb dX10_ofReign_12 (by decide) ?_
    refine lv_goto (tgt := 33) hx hb dX10_ofReign_13 (by decide) ?_
    refine rw_V (As := [Value.int (iI 1)]) (rest := []) ⟨hx, hb, hml, hown, hts⟩ (c_X10_refused l g τ ma M 1 ⟨by decide, by decide⟩) gX10_ofReign_X10_refused cd_X10_refused rfl rfl ⟨rfl, rfl⟩ ⟨Nat.le_of_ble_eq_true rfl, Nat.le_of_ble_eq_true rfl⟩ hK hP hD hS [0] (rfl) (by decide) 0 rfl rfl rfl rfl hl rfl (Nat.le_of_ble_eq_true rfl) dX10_ofReign_33 ⟨Nat.le_of_ble_eq_true rfl, Nat.le_of_ble_eq_true rfl⟩ (fun v w h => by rw [h.2]; rfl) (fun v w1 H locs hZ hP hD hS => ?_)
    obtain ⟨rfl, rfl⟩ := hZ
    have hP : va_P g vwCl ([moO ma (updZ M 0 1), arC (ma 1) (τ 0) 291 (flR R)]) H := hP
    have hD : va_D A ([moO ma (updZ M 0 1), arC (ma 1) (τ 0) 291 (flR R)]) := hD
    refine tl_some ?_
    refine cv_i (y := iI 1) (congrArg iI (if_neg (by decide))) ?_
    refine zi_if_eq (tgt := 41) hx hb ⟨by decide, by decide⟩ dX10_ofReign_36 (by decide) (fun c_9 => ?_) (fun c_9 => ?_)
    · exact absurd c_9 (by decide)
    refine lv_iconst (v := iI 0) hx hb dX10_ofReign_39 (by decide) ?_
    exact rw_iret hx hb hr hlocks hP hS (⟨by (refine Eq.symm ?_; unfold pReign; (try simp only [Int.toNat_natCast]); repeat (first | rw [if_pos (by omega)] | rw [if_neg (by omega)])) <;> first | rfl | (exfalso; omega), (updZ M 0 1), by show 1 = _; (refine Eq.symm ?_; unfold pReign; (try simp only [Int.toNat_natCast]); repeat (first | rw [if_pos (by omega)] | rw [if_neg (by omega)])) <;> first | rfl | (exfalso; omega), by show M 5 = M 5; first | rfl | omega, by show M 9 = M 9; first | rfl | omega, rfl⟩) dX10_ofReign_40

theorem cd_X10_ofDie : cd yX10_ofDie 2 := by decide +kernel
theorem in_X10_ofDie_X10 : ∀ w ∈ wsX100, w ∈ wsX10_ofDie := by decide +kernel
set_option maxHeartbeats 1000000 in
set_option maxRecDepth 100000 in
theorem c_X10_ofDie (l : Launch) (g : va_G) (τ : Nat → ClassId) (ma : Nat → Nat) (M : Nat → Int) (R : Nat → Nat → Int) (hI : SI R) (z1 : Int) (rz1 : -2147483648 ≤ z1 ∧ z1 < 2147483648) (w1 : Int) (rw1 : -2147483648 ≤ w1 ∧ w1 < 2147483648)  : Met l yX10_ofDie wsX10_ofDie { frames := 8, cells := 0, slots := 0, locals := 190 } (va_Pc [Value.ref (ma 0), Value.int (iI z1), Value.int (iI w1)] (rwW g τ ([moO ma M, arC (ma 1) (τ 0) 291 (flR R)]))) (rwQ g (fun v w => v = some (Value.int (iI (pDie R z1 w1).2)) ∧ ∃ M2 : Nat → Int, M2 0 = (pDie R z1 w1).1 ∧ M2 5 = M 5 ∧ M2 9 = M 9 ∧ w = [moO ma M2, arC (ma 1) (τ 0) 291 (flR R)]) (inW ([moO ma M, arC (ma 1) (τ 0) 291 (flR R)]))) 0 0 (inW ([moO ma M, arC (ma 1) (τ 0) 291 (flR R)])) := by
  have hB := hI.hB
  have hr0 := hI.r
  have hd0 := hI.d
  have hs0 := hI.s
  refine rwMet (cc := cX10_ofDie) (maxL := 3) (ret := (some .int)) (lv := [(0, Value.ref (ma 0)), (1, Value.int (iI z1)), (2, Value.int (iI w1))]) (by decide) rfl (Nat.le_of_ble_eq_true rfl) rfl ?_
  intro p e s m below meth c hx hb hr hml hts hown hlocks A H hP hD hS hK ls hl
  refine lv_aload_n hx hb dX10_ofDie_0 rfl (lv_at hl 0 rfl) ?_
  refine lv_aload_n hx hb dX10_ofDie_1 rfl (lv_at hl 0 rfl) ?_
  refine va_get (D := g) (ci := 10) (v := Value.ref (ma 1)) (C := RX10) (T := TX10) (N := 18) hx hb hts in_X10_ofDie_X10 hown hK.1 hP 0 (rfl) rfl 1 (by decide) (hts _ (List.mem_of_getElem? (i := 1) rfl) : (Cond.fieldLink RX10 7 "CordSealsModel" "now" "[I").before _ s = true) (fun _ h9 => h9) rfl dX10_ofDie_2 ?_
  refine lv_iload_n hx hb dX10_ofDie_5 rfl (lv_at hl 1 rfl) ?_
  refine ro_S (As := [Value.ref (ma 1), Value.int (iI z1)]) (rest := [Value.ref (ma 0)]) (v := some (Value.int (iI (zB (decide (0 ≤ z1 ∧ z1 ≤ R 4 0 - 1)))))) ⟨hx, hb, hml, hown, hts⟩ (c_X10_hasDie l g τ (ma 1) R hI z1 ⟨by omega, by omega⟩) gX10_ofDie_X10_hasDie cd_X10_hasDie rfl ⟨rfl, rfl⟩ ⟨Nat.le_of_ble_eq_true rfl, Nat.le_of_ble_eq_true rfl⟩ hK (cut_P (is := [1]) hP rfl) rfl hl rfl (Nat.le_of_ble_eq_true rfl) dX10_ofDie_6 ⟨Nat.le_of_ble_eq_true rfl, Nat.le_of_ble_eq_true rfl⟩ ?_
  refine tl_some ?_
  refine zb_if_ne (tgt := 16) hx hb dX10_ofDie_9 (by decide) (fun c_1 => ?_) (fun c_1 => ?_)
  · have cd_c_1 := of_decide_eq_true c_1
    refine lv_iload_n hx hb dX10_ofDie_16 rfl (lv_at hl 2 rfl) ?_
    refine lv_i2l (v := (iI w1).toInt64) hx hb dX10_ofDie_17 rfl ?_
    refine cv_l (y := iL w1) (i2l_iL ⟨by omega, by omega⟩) ?_
    refine lv_lconst (v := 0) hx hb dX10_ofDie_18 (by decide) ?_
    refine cv_l (y := iL 0) (by decide) ?_
    refine lv_ldc2 (v := 5) hx hb hown (hts _ (List.mem_of_getElem? (i := 2) rfl)) dX10_ofDie_19 ?_
    refine cv_l (y := iL 5) (by decide) ?_
    refine ro_S (As := [Value.long (iL w1), Value.long (iL 0), Value.long (iL 5)]) (rest := [Value.ref (ma 0)]) (v := some (Value.int (iI (zB (decide (0 ≤ w1 ∧ w1 ≤ 5)))))) ⟨hx, hb, hml, hown, hts⟩ (c_X10_in l g τ w1 0 5 ⟨by omega, by omega⟩ ⟨by omega, by omega⟩ ⟨by omega, by omega⟩) gX10_ofDie_X10_in cd_X10_in rfl ⟨rfl, rfl⟩ ⟨Nat.le_of_ble_eq_true rfl, Nat.le_of_ble_eq_true rfl⟩ hK (fun _ _ h => by cases h) rfl hl rfl (Nat.le_of_ble_eq_true rfl) dX10_ofDie_22 ⟨Nat.le_of_ble_eq_true rfl, Nat.le_of_ble_eq_true rfl⟩ ?_
    refine tl_some ?_
    refine zb_if_ne (tgt := 32) hx hb dX10_ofDie_25 (by decide) (fun c_2 => ?_) (fun c_2 => ?_)
    · have cd_c_2 := of_decide_eq_true c_2
      refine lv_iconst (v := iI 0) hx hb dX10_ofDie_32 (by decide) ?_
      refine rw_V (As := [Value.int (iI 0)]) (rest := []) ⟨hx, hb, hml, hown, hts⟩ (c_X10_refused l g τ ma M 0 ⟨by decide, by decide⟩) gX10_ofDie_X10_refused cd_X10_refused rfl rfl ⟨rfl, rfl⟩ ⟨Nat.le_of_ble_eq_true rfl, Nat.le_of_ble_eq_true rfl⟩ hK hP hD hS [0] (rfl) (by decide) 0 rfl rfl rfl rfl hl rfl (Nat.le_of_ble_eq_true rfl) dX10_ofDie_33 ⟨Nat.le_of_ble_eq_true rfl, Nat.le_of_ble_eq_true rfl⟩ (fun v w h => by rw [h.2]; rfl) (fun v w1 H locs hZ hP hD hS => ?_)
      obtain ⟨rfl, rfl⟩ := hZ
      have hP : va_P g vwCl ([moO ma (updZ M 0 0), arC (ma 1) (τ 0) 291 (flR R)]) H := hP
      have hD : va_D A ([moO ma (updZ M 0 0), arC (ma 1) (τ 0) 291 (flR R)]) := hD
      refine tl_some ?_
      refine cv_i (y := iI 0) (congrArg iI (if_pos rfl)) ?_
      refine zi_if_eq (tgt := 41) hx hb ⟨by decide, by decide⟩ dX10_ofDie_36 (by decide) (fun c_3 => ?_) (fun c_3 => ?_)
      · skip
        obtain ⟨r1, rfl⟩ := Int.eq_ofNat_of_zero_le (show 0 ≤ z1 by omega)
        refine lv_iload_n hx hb dX10_ofDie_41 rfl (lv_at hl 2 rfl) ?_
        by_cases k_4_0 : w1 = 0
        · refine zi_tabl (tgt := 72) (x := w1) k_4_0 hx hb ⟨by decide, by decide⟩ (v := 0) dX10_ofDie_42 (by decide) (by decide) (off := 30) (by decide +kernel) (by decide) ?_
          refine lv_aload_n hx hb dX10_ofDie_72 rfl (lv_at hl 0 rfl) ?_
          refine va_get (D := g) (ci := 10) (v := Value.ref (ma 1)) (C := RX10) (T := TX10) (N := 18) hx hb hts in_X10_ofDie_X10 hown hK.1 hP 0 (rfl) rfl 1 (by decide) (hts _ (List.mem_of_getElem? (i := 1) rfl) : (Cond.fieldLink RX10 7 "CordSealsModel" "now" "[I").before _ s = true) (fun _ h9 => h9) rfl dX10_ofDie_73 ?_
          refine lv_bipush (v := iI 25) hx hb dX10_ofDie_76 (by decide) ?_
          refine lv_iload_n hx hb dX10_ofDie_78 rfl (lv_at hl 1 rfl) ?_
          refine zi_add hx hb dX10_ofDie_79 ?_
          refine zf_ald hx hb hK hP 1 (f := flR R) rfl (25 + r1) (by omega) (by omega) (by decide) (z := R 5 r1) (fl_5 (i := r1) (by omega) (by omega)) dX10_ofDie_80 ?_
          have hb_5 := hB 5 r1
          exact rw_iret hx hb hr hlocks hP hS (⟨by (refine Eq.symm ?_; unfold pDie; (try simp only [Int.toNat_natCast]); repeat (first | rw [if_pos (by omega)] | rw [if_neg (by omega)])) <;> first | rfl | (exfalso; omega), (updZ M 0 0), by show 0 = _; (refine Eq.symm ?_; unfold pDie; (try simp only [Int.toNat_natCast]); repeat (first | rw [if_pos (by omega)] | rw [if_neg (by omega)])) <;> first | rfl | (exfalso; omega), by show M 5 = M 5; first | rfl | omega, by show M 9 = M 9; first | rfl | omega, rfl⟩) dX10_ofDie_81
        by_cases k_4_1 : w1 = 1
        · refine zi_tabl (tgt := 82) (x := w1) k_4_1 hx hb ⟨by decide, by decide⟩ (v := 1) dX10_ofDie_42 (by decide) (by decide) (off := 40) (by decide +kernel) (by decide) ?_
          refine lv_aload_n hx hb dX10_ofDie_82 rfl (lv_at hl 0 rfl) ?_
          refine va_get (D := g) (ci := 10) (v := Value.ref (ma 1)) (C := RX10) (T := TX10) (N := 18) hx hb hts in_X10_ofDie_X10 hown hK.1 hP 0 (rfl) rfl 1 (by decide) (hts _ (List.mem_of_getElem? (i := 1) rfl) : (Cond.fieldLink RX10 7 "CordSealsModel" "now" "[I").before _ s = true) (fun _ h9 => h9) rfl dX10_ofDie_83 ?_
          refine lv_bipush (v := iI 35) hx hb dX10_ofDie_86 (by decide) ?_
          refine lv_iload_n hx hb dX10_ofDie_88 rfl (lv_at hl 1 rfl) ?_
          refine zi_add hx hb dX10_ofDie_89 ?_
          refine zf_ald hx hb hK hP 1 (f := flR R) rfl (35 + r1) (by omega) (by omega) (by decide) (z := R 6 r1) (fl_6 (i := r1) (by omega) (by omega)) dX10_ofDie_90 ?_
          have hb_6 := hB 6 r1
          exact rw_iret hx hb hr hlocks hP hS (⟨by (refine Eq.symm ?_; unfold pDie; (try simp only [Int.toNat_natCast]); repeat (first | rw [if_pos (by omega)] | rw [if_neg (by omega)])) <;> first | rfl | (exfalso; omega), (updZ M 0 0), by show 0 = _; (refine Eq.symm ?_; unfold pDie; (try simp only [Int.toNat_natCast]); repeat (first | rw [if_pos (by omega)] | rw [if_neg (by omega)])) <;> first | rfl | (exfalso; omega), by show M 5 = M 5; first | rfl | omega, by show M 9 = M 9; first | rfl | omega, rfl⟩) dX10_ofDie_91
        by_cases k_4_2 : w1 = 2
        · refine zi_tabl (tgt := 92) (x := w1) k_4_2 hx hb ⟨by decide, by decide⟩ (v := 2) dX10_ofDie_42 (by decide) (by decide) (off := 50) (by decide +kernel) (by decide) ?_
          refine lv_aload_n hx hb dX10_ofDie_92 rfl (lv_at hl 0 rfl) ?_
          refine va_get (D := g) (ci := 10) (v := Value.ref (ma 1)) (C := RX10) (T := TX10) (N := 18) hx hb hts in_X10_ofDie_X10 hown hK.1 hP 0 (rfl) rfl 1 (by decide) (hts _ (List.mem_of_getElem? (i := 1) rfl) : (Cond.fieldLink RX10 7 "CordSealsModel" "now" "[I").before _ s = true) (fun _ h9 => h9) rfl dX10_ofDie_93 ?_
          refine lv_bipush (v := iI 45) hx hb dX10_ofDie_96 (by decide) ?_
          refine lv_iload_n hx hb dX10_ofDie_98 rfl (lv_at hl 1 rfl) ?_
          refine zi_add hx hb dX10_ofDie_99 ?_
          refine zf_ald hx hb hK hP 1 (f := flR R) rfl (45 + r1) (by omega) (by omega) (by decide) (z := R 7 r1) (fl_7 (i := r1) (by omega) (by omega)) dX10_ofDie_100 ?_
          have hb_7 := hB 7 r1
          exact rw_iret hx hb hr hlocks hP hS (⟨by (refine Eq.symm ?_; unfold pDie; (try simp only [Int.toNat_natCast]); repeat (first | rw [if_pos (by omega)] | rw [if_neg (by omega)])) <;> first | rfl | (exfalso; omega), (updZ M 0 0), by show 0 = _; (refine Eq.symm ?_; unfold pDie; (try simp only [Int.toNat_natCast]); repeat (first | rw [if_pos (by omega)] | rw [if_neg (by omega)])) <;> first | rfl | (exfalso; omega), by show M 5 = M 5; first | rfl | omega, by show M 9 = M 9; first | rfl | omega, rfl⟩) dX10_ofDie_101
        by_cases k_4_3 : w1 = 3
        · refine zi_tabl (tgt := 102) (x := w1) k_4_3 hx hb ⟨by decide, by decide⟩ (v := 3) dX10_ofDie_42 (by decide) (by decide) (off := 60) (by decide +kernel) (by decide) ?_
          refine lv_aload_n hx hb dX10_ofDie_102 rfl (lv_at hl 0 rfl) ?_
          refine va_get (D := g) (ci := 10) (v := Value.ref (ma 1)) (C := RX10) (T := TX10) (N := 18) hx hb hts in_X10_ofDie_X10 hown hK.1 hP 0 (rfl) rfl 1 (by decide) (hts _ (List.mem_of_getElem? (i := 1) rfl) : (Cond.fieldLink RX10 7 "CordSealsModel" "now" "[I").before _ s = true) (fun _ h9 => h9) rfl dX10_ofDie_103 ?_
          refine lv_bipush (v := iI 55) hx hb dX10_ofDie_106 (by decide) ?_
          refine lv_iload_n hx hb dX10_ofDie_108 rfl (lv_at hl 1 rfl) ?_
          refine zi_add hx hb dX10_ofDie_109 ?_
          refine zf_ald hx hb hK hP 1 (f := flR R) rfl (55 + r1) (by omega) (by omega) (by decide) (z := R 8 r1) (fl_8 (i := r1) (by omega) (by omega)) dX10_ofDie_110 ?_
          have hb_8 := hB 8 r1
          exact rw_iret hx hb hr hlocks hP hS (⟨by (refine Eq.symm ?_; unfold pDie; (try simp only [Int.toNat_natCast]); repeat (first | rw [if_pos (by omega)] | rw [if_neg (by omega)])) <;> first | rfl | (exfalso; omega), (updZ M 0 0), by show 0 = _; (refine Eq.symm ?_; unfold pDie; (try simp only [Int.toNat_natCast]); repeat (first | rw [if_pos (by omega)] | rw [if_neg (by omega)])) <;> first | rfl | (exfalso; omega), by show M 5 = M 5; first | rfl | omega, by show M 9 = M 9; first | rfl | omega, rfl⟩) dX10_ofDie_111
        refine zi_tablD (x := w1) (tgt := 112) ⟨by omega, by omega⟩ hx hb dX10_ofDie_42 (by omega) (by decide) ?_
        refine lv_aload_n hx hb dX10_ofDie_112 rfl (lv_at hl 0 rfl) ?_
        refine lv_iload_n hx hb dX10_ofDie_113 rfl (lv_at hl 1 rfl) ?_
        refine jn (F0 m 124 ls (Value.int (iI (if w1 = 5 then 1 else 0)) :: Value.int (iI (r1 : Int)) :: Value.ref (ma 0) :: [])) ?_ (fun K => ?_)
        · skip
          refine rw_V (As := [Value.int (iI (r1 : Int)), Value.int (iI (if w1 = 5 then 1 else 0))]) (rest := []) ⟨hx, hb, hml, hown, hts⟩ (c_X10_sealsOf l g τ ma (updZ M 0 0) R hI (r1 : Int) ⟨by omega, by omega⟩ (if w1 = 5 then 1 else 0) (by omega)) gX10_ofDie_X10_sealsOf cd_X10_sealsOf rfl rfl ⟨rfl, rfl⟩ ⟨Nat.le_of_ble_eq_true rfl, Nat.le_of_ble_eq_true rfl⟩ hK hP hD hS [0, 1] (rfl) (by decide) 0 rfl rfl rfl rfl hl rfl (Nat.le_of_ble_eq_true rfl) dX10_ofDie_124 ⟨Nat.le_of_ble_eq_true rfl, Nat.le_of_ble_eq_true rfl⟩ (fun v w h => by obtain ⟨-, M9, -, rfl⟩ := h; rfl) (fun v w1 H locs hZ hP hD hS => ?_)
          obtain ⟨rfl, M_9, hgM_9, rfl⟩ := hZ
          have hP : va_P g vwCl ([moO ma M_9, arC (ma 1) (τ 0) 291 (flR R)]) H := hP
          have hD : va_D A ([moO ma M_9, arC (ma 1) (τ 0) 291 (flR R)]) := hD
          have hfM_9_0 : M_9 0 = 0 := hgM_9 0 (by decide)
          have hfM_9_5 : M_9 5 = M 5 := hgM_9 5 (by decide)
          have hfM_9_9 : M_9 9 = M 9 := hgM_9 9 (by decide)
          have hfM_9_10 : M_9 10 = M 10 := hgM_9 10 (by decide)
          have hfM_9_11 : M_9 11 = M 11 := hgM_9 11 (by decide)
          have hfM_9_12 : M_9 12 = M 12 := hgM_9 12 (by decide)
          refine tl_some ?_
          exact rw_iret hx hb hr hlocks hP hS (⟨by (refine Eq.symm ?_; unfold pDie; (try simp only [Int.toNat_natCast]); repeat (first | rw [if_pos (by omega)] | rw [if_neg (by omega)])) <;> first | rfl | (exfalso; omega), M_9, by show M_9 0 = _; rw [show M_9 0 = 0 from by omega]; (refine Eq.symm ?_; unfold pDie; (try simp only [Int.toNat_natCast]); repeat (first | rw [if_pos (by omega)] | rw [if_neg (by omega)])) <;> first | rfl | (exfalso; omega), by show M_9 5 = M 5; first | rfl | omega, by show M_9 9 = M 9; first | rfl | omega, rfl⟩) dX10_ofDie_127
        · skip
          refine lv_iload_n hx hb dX10_ofDie_114 rfl (lv_at hl 2 rfl) ?_
          refine lv_iconst (v := iI 5) hx hb dX10_ofDie_115 (by decide) ?_
          refine zi_icmp_ne (tgt := 123) hx hb ⟨by omega, by omega⟩ ⟨by decide, by decide⟩ dX10_ofDie_116 (by decide) (fun c_10 => ?_) (fun c_10 => ?_)
          · have _ := c_10
            refine lv_iconst (v := iI 0) hx hb dX10_ofDie_123 (by decide) ?_
            exact cv_i (congrArg iI (Eq.symm (show (if w1 = 5 then 1 else 0) = 0 from by first | rw [if_pos (by omega)] | rw [if_neg (by omega)]))) K
          · have _ := c_10
            refine lv_iconst (v := iI 1) hx hb dX10_ofDie_119 (by decide) ?_
            refine lv_goto (tgt := 124) hx hb dX10_ofDie_120 (by decide) ?_
            exact cv_i (congrArg iI (Eq.symm (show (if w1 = 5 then 1 else 0) = 1 from by first | rw [if_pos (by omega)] | rw [if_neg (by omega)]))) K
      · exact absurd c_3 (by decide)
    · have cd_c_2 := of_decide_eq_false c_2
      refine lv_iconst (v := iI 2) hx hb dX10_ofDie_28 (by decide) ?_
      refine lv_goto (tgt := 33) hx hb dX10_ofDie_29 (by decide) ?_
      refine rw_V (As := [Value.int (iI 2)]) (rest := []) ⟨hx, hb, hml, hown, hts⟩ (c_X10_refused l g τ ma M 2 ⟨by decide, by decide⟩) gX10_ofDie_X10_refused cd_X10_refused rfl rfl ⟨rfl, rfl⟩ ⟨Nat.le_of_ble_eq_true rfl, Nat.le_of_ble_eq_true rfl⟩ hK hP hD hS [0] (rfl) (by decide) 0 rfl rfl rfl rfl hl rfl (Nat.le_of_ble_eq_true rfl) dX10_ofDie_33 ⟨Nat.le_of_ble_eq_true rfl, Nat.le_of_ble_eq_true rfl⟩ (fun v w h => by rw [h.2]; rfl) (fun v w1 H locs hZ hP hD hS => ?_)
      obtain ⟨rfl, rfl⟩ := hZ
      have hP : va_P g vwCl ([moO ma (updZ M 0 2), arC (ma 1) (τ 0) 291 (flR R)]) H := hP
      have hD : va_D A ([moO ma (updZ M 0 2), arC (ma 1) (τ 0) 291 (flR R)]) := hD
      refine tl_some ?_
      refine cv_i (y := iI 1) (congrArg iI (if_neg (by decide))) ?_
      refine zi_if_eq (tgt := 41) hx hb ⟨by decide, by decide⟩ dX10_ofDie_36 (by decide) (fun c_11 => ?_) (fun c_11 => ?_)
      · exact absurd c_11 (by decide)
      refine lv_iconst (v := iI 0) hx hb dX10_ofDie_39 (by decide) ?_
      exact rw_iret hx hb hr hlocks hP hS (⟨by (refine Eq.symm ?_; unfold pDie; (try simp only [Int.toNat_natCast]); repeat (first | rw [if_pos (by omega)] | rw [if_neg (by omega)])) <;> first | rfl | (exfalso; omega), (updZ M 0 2), by show 2 = _; (refine Eq.symm ?_; unfold pDie; (try simp only [Int.toNat_natCast]); repeat (first | rw [if_pos (by omega)] | rw [if_neg (by omega)])) <;> first | rfl | (exfalso; omega), by show M 5 = M 5; first | rfl | omega, by show M 9 = M 9; first | rfl | omega, rfl⟩) dX10_ofDie_40
  · have cd_c_1 := of_decide_eq_false c_1
    refine lv_iconst (v := iI 1) hx hb dX10_ofDie_12 (by decide) ?_
    refine lv_goto (tgt := 33) hx hb dX10_ofDie_13 (by decide) ?_
    refine rw_V (As := [Value.int (iI 1)]) (rest := []) ⟨hx, hb, hml, hown, hts⟩ (c_X10_refused l g τ ma M 1 ⟨by decide, by decide⟩) gX10_ofDie_X10_refused cd_X10_refused rfl rfl ⟨rfl, rfl⟩ ⟨Nat.le_of_ble_eq_true rfl, Nat.le_of_ble_eq_true rfl⟩ hK hP hD hS [0] (rfl) (by decide) 0 rfl rfl rfl rfl hl rfl (Nat.le_of_ble_eq_true rfl) dX10_ofDie_33 ⟨Nat.le_of_ble_eq_true rfl, Nat.le_of_ble_eq_true rfl⟩ (fun v w h => by rw [h.2]; rfl) (fun v w1 H locs hZ hP hD hS => ?_)
    obtain ⟨rfl, rfl⟩ := hZ
    have hP : va_P g vwCl ([moO ma (updZ M 0 1), arC (ma 1) (τ 0) 291 (flR R)]) H := hP
    have hD : va_D A ([moO ma (updZ M 0 1), arC (ma 1) (τ 0) 291 (flR R)]) := hD
    refine tl_some ?_
    refine cv_i (y := iI 1) (congrArg iI (if_neg (by decide))) ?_
    refine zi_if_eq (tgt := 41) hx hb ⟨by decide, by decide⟩ dX10_ofDie_36 (by decide) (fun c_12 => ?_) (fun c_12 => ?_)
    · exact absurd c_12 (by decide)
    refine lv_iconst (v := iI 0) hx hb dX10_ofDie_39 (by decide) ?_
    exact rw_iret hx hb hr hlocks hP hS (⟨by (refine Eq.symm ?_; unfold pDie; (try simp only [Int.toNat_natCast]); repeat (first | rw [if_pos (by omega)] | rw [if_neg (by omega)])) <;> first | rfl | (exfalso; omega), (updZ M 0 1), by show 1 = _; (refine Eq.symm ?_; unfold pDie; (try simp only [Int.toNat_natCast]); repeat (first | rw [if_pos (by omega)] | rw [if_neg (by omega)])) <;> first | rfl | (exfalso; omega), by show M 5 = M 5; first | rfl | omega, by show M 9 = M 9; first | rfl | omega, rfl⟩) dX10_ofDie_40

theorem cd_X10_crackYear : cd yX10_crackYear 2 := by decide +kernel
theorem in_X10_crackYear_X10 : ∀ w ∈ wsX100, w ∈ wsX10_crackYear := by decide +kernel
set_option maxHeartbeats 1000000 in
set_option maxRecDepth 100000 in
theorem c_X10_crackYear (l : Launch) (g : va_G) (τ : Nat → ClassId) (ma : Nat → Nat) (M : Nat → Int) (R : Nat → Nat → Int) (hI : SI R) (z1 : Int) (rz1 : -2147483648 ≤ z1 ∧ z1 < 2147483648) (w1 : Int) (rw1 : -2147483648 ≤ w1 ∧ w1 < 2147483648)  : Met l yX10_crackYear wsX10_crackYear { frames := 2, cells := 0, slots := 0, locals := 46 } (va_Pc [Value.ref (ma 0), Value.int (iI z1), Value.int (iI w1)] (rwW g τ ([moO ma M, arC (ma 1) (τ 0) 291 (flR R)]))) (rwQ g (fun v w => v = some (Value.int (iI (pCrack R z1 w1).2)) ∧ ∃ M2 : Nat → Int, M2 0 = (pCrack R z1 w1).1 ∧ M2 5 = M 5 ∧ M2 9 = M 9 ∧ w = [moO ma M2, arC (ma 1) (τ 0) 291 (flR R)]) (inW ([moO ma M, arC (ma 1) (τ 0) 291 (flR R)]))) 0 0 (inW ([moO ma M, arC (ma 1) (τ 0) 291 (flR R)])) := by
  have hB := hI.hB
  have hr0 := hI.r
  have hd0 := hI.d
  have hs0 := hI.s
  refine rwMet (cc := cX10_crackYear) (maxL := 3) (ret := (some .int)) (lv := [(0, Value.ref (ma 0)), (1, Value.int (iI z1)), (2, Value.int (iI w1))]) (by decide) rfl (Nat.le_of_ble_eq_true rfl) rfl ?_
  intro p e s m below meth c hx hb hr hml hts hown hlocks A H hP hD hS hK ls hl
  refine lv_aload_n hx hb dX10_crackYear_0 rfl (lv_at hl 0 rfl) ?_
  refine lv_aload_n hx hb dX10_crackYear_1 rfl (lv_at hl 0 rfl) ?_
  refine va_get (D := g) (ci := 10) (v := Value.ref (ma 1)) (C := RX10) (T := TX10) (N := 18) hx hb hts in_X10_crackYear_X10 hown hK.1 hP 0 (rfl) rfl 1 (by decide) (hts _ (List.mem_of_getElem? (i := 1) rfl) : (Cond.fieldLink RX10 7 "CordSealsModel" "now" "[I").before _ s = true) (fun _ h9 => h9) rfl dX10_crackYear_2 ?_
  refine lv_iload_n hx hb dX10_crackYear_5 rfl (lv_at hl 1 rfl) ?_
  refine ro_S (As := [Value.ref (ma 1), Value.int (iI z1)]) (rest := [Value.ref (ma 0)]) (v := some (Value.int (iI (zB (decide (0 ≤ z1 ∧ z1 ≤ R 4 0 - 1)))))) ⟨hx, hb, hml, hown, hts⟩ (c_X10_hasDie l g τ (ma 1) R hI z1 ⟨by omega, by omega⟩) gX10_crackYear_X10_hasDie cd_X10_hasDie rfl ⟨rfl, rfl⟩ ⟨Nat.le_of_ble_eq_true rfl, Nat.le_of_ble_eq_true rfl⟩ hK (cut_P (is := [1]) hP rfl) rfl hl rfl (Nat.le_of_ble_eq_true rfl) dX10_crackYear_6 ⟨Nat.le_of_ble_eq_true rfl, Nat.le_of_ble_eq_true rfl⟩ ?_
  refine tl_some ?_
  refine zb_if_eq (tgt := 37) hx hb dX10_crackYear_9 (by decide) (fun c_1 => ?_) (fun c_1 => ?_)
  · have cd_c_1 := of_decide_eq_false c_1
    refine lv_iconst (v := iI 1) hx hb dX10_crackYear_37 (by decide) ?_
    refine rw_V (As := [Value.int (iI 1)]) (rest := []) ⟨hx, hb, hml, hown, hts⟩ (c_X10_refused l g τ ma M 1 ⟨by decide, by decide⟩) gX10_crackYear_X10_refused cd_X10_refused rfl rfl ⟨rfl, rfl⟩ ⟨Nat.le_of_ble_eq_true rfl, Nat.le_of_ble_eq_true rfl⟩ hK hP hD hS [0] (rfl) (by decide) 0 rfl rfl rfl rfl hl rfl (Nat.le_of_ble_eq_true rfl) dX10_crackYear_38 ⟨Nat.le_of_ble_eq_true rfl, Nat.le_of_ble_eq_true rfl⟩ (fun v w h => by rw [h.2]; rfl) (fun v w1 H locs hZ hP hD hS => ?_)
    obtain ⟨rfl, rfl⟩ := hZ
    have hP : va_P g vwCl ([moO ma (updZ M 0 1), arC (ma 1) (τ 0) 291 (flR R)]) H := hP
    have hD : va_D A ([moO ma (updZ M 0 1), arC (ma 1) (τ 0) 291 (flR R)]) := hD
    refine tl_some ?_
    refine cv_i (y := iI 1) (congrArg iI (if_neg (by decide))) ?_
    refine zi_if_eq (tgt := 46) hx hb ⟨by decide, by decide⟩ dX10_crackYear_41 (by decide) (fun c_2 => ?_) (fun c_2 => ?_)
    · exact absurd c_2 (by decide)
    refine lv_iconst (v := iI 0) hx hb dX10_crackYear_44 (by decide) ?_
    exact rw_iret hx hb hr hlocks hP hS (⟨by (refine Eq.symm ?_; unfold pCrack; (try simp only [Int.toNat_natCast]); repeat (first | rw [if_pos (by omega)] | rw [if_neg (by omega)])) <;> first | rfl | (exfalso; omega), (updZ M 0 1), by show 1 = _; (refine Eq.symm ?_; unfold pCrack; (try simp only [Int.toNat_natCast]); repeat (first | rw [if_pos (by omega)] | rw [if_neg (by omega)])) <;> first | rfl | (exfalso; omega), by show M 5 = M 5; first | rfl | omega, by show M 9 = M 9; first | rfl | omega, rfl⟩) dX10_crackYear_45
  · have cd_c_1 := of_decide_eq_true c_1
    obtain ⟨r1, rfl⟩ := Int.eq_ofNat_of_zero_le (show 0 ≤ z1 by omega)
    have hdl := hI.ds r1 (by omega)
    refine lv_iload_n hx hb dX10_crackYear_12 rfl (lv_at hl 2 rfl) ?_
    refine lv_i2l (v := (iI w1).toInt64) hx hb dX10_crackYear_13 rfl ?_
    refine cv_l (y := iL w1) (i2l_iL ⟨by omega, by omega⟩) ?_
    refine lv_lconst (v := 0) hx hb dX10_crackYear_14 (by decide) ?_
    refine cv_l (y := iL 0) (by decide) ?_
    refine lv_aload_n hx hb dX10_crackYear_15 rfl (lv_at hl 0 rfl) ?_
    refine va_get (D := g) (ci := 10) (v := Value.ref (ma 1)) (C := RX10) (T := TX10) (N := 18) hx hb hts in_X10_crackYear_X10 hown hK.1 hP 0 (rfl) rfl 1 (by decide) (hts _ (List.mem_of_getElem? (i := 1) rfl) : (Cond.fieldLink RX10 7 "CordSealsModel" "now" "[I").before _ s = true) (fun _ h9 => h9) rfl dX10_crackYear_16 ?_
    refine lv_bipush (v := iI 55) hx hb dX10_crackYear_19 (by decide) ?_
    refine lv_iload_n hx hb dX10_crackYear_21 rfl (lv_at hl 1 rfl) ?_
    refine zi_add hx hb dX10_crackYear_22 ?_
    refine zf_ald hx hb hK hP 1 (f := flR R) rfl (55 + r1) (by omega) (by omega) (by decide) (z := R 8 r1) (fl_8 (i := r1) (by omega) (by omega)) dX10_crackYear_23 ?_
    have hb_3 := hB 8 r1
    refine lv_iconst (v := iI 1) hx hb dX10_crackYear_24 (by decide) ?_
    refine zi_sub hx hb dX10_crackYear_25 ?_
    refine lv_i2l (v := (iI ((R 8 r1) - 1)).toInt64) hx hb dX10_crackYear_26 rfl ?_
    refine cv_l (y := iL ((R 8 r1) - 1)) (i2l_iL ⟨by omega, by omega⟩) ?_
    refine ro_S (As := [Value.long (iL w1), Value.long (iL 0), Value.long (iL ((R 8 r1) - 1))]) (rest := [Value.ref (ma 0)]) (v := some (Value.int (iI (zB (decide (0 ≤ w1 ∧ w1 ≤ ((R 8 r1) - 1))))))) ⟨hx, hb, hml, hown, hts⟩ (c_X10_in l g τ w1 0 ((R 8 r1) - 1) ⟨by omega, by omega⟩ ⟨by omega, by omega⟩ ⟨by omega, by omega⟩) gX10_crackYear_X10_in cd_X10_in rfl ⟨rfl, rfl⟩ ⟨Nat.le_of_ble_eq_true rfl, Nat.le_of_ble_eq_true rfl⟩ hK (fun _ _ h => by cases h) rfl hl rfl (Nat.le_of_ble_eq_true rfl) dX10_crackYear_27 ⟨Nat.le_of_ble_eq_true rfl, Nat.le_of_ble_eq_true rfl⟩ ?_
    refine tl_some ?_
    refine zb_if_eq (tgt := 37) hx hb dX10_crackYear_30 (by decide) (fun c_4 => ?_) (fun c_4 => ?_)
    · have cd_c_4 := of_decide_eq_false c_4
      refine lv_iconst (v := iI 1) hx hb dX10_crackYear_37 (by decide) ?_
      refine rw_V (As := [Value.int (iI 1)]) (rest := []) ⟨hx, hb, hml, hown, hts⟩ (c_X10_refused l g τ ma M 1 ⟨by decide, by decide⟩) gX10_crackYear_X10_refused cd_X10_refused rfl rfl ⟨rfl, rfl⟩ ⟨Nat.le_of_ble_eq_true rfl, Nat.le_of_ble_eq_true rfl⟩ hK hP hD hS [0] (rfl) (by decide) 0 rfl rfl rfl rfl hl rfl (Nat.le_of_ble_eq_true rfl) dX10_crackYear_38 ⟨Nat.le_of_ble_eq_true rfl, Nat.le_of_ble_eq_true rfl⟩ (fun v w h => by rw [h.2]; rfl) (fun v w1 H locs hZ hP hD hS => ?_)
      obtain ⟨rfl, rfl⟩ := hZ
      have hP : va_P g vwCl ([moO ma (updZ M 0 1), arC (ma 1) (τ 0) 291 (flR R)]) H := hP
      have hD : va_D A ([moO ma (updZ M 0 1), arC (ma 1) (τ 0) 291 (flR R)]) := hD
      refine tl_some ?_
      refine cv_i (y := iI 1) (congrArg iI (if_neg (by decide))) ?_
      refine zi_if_eq (tgt := 46) hx hb ⟨by decide, by decide⟩ dX10_crackYear_41 (by decide) (fun c_5 => ?_) (fun c_5 => ?_)
      · exact absurd c_5 (by decide)
      refine lv_iconst (v := iI 0) hx hb dX10_crackYear_44 (by decide) ?_
      exact rw_iret hx hb hr hlocks hP hS (⟨by (refine Eq.symm ?_; unfold pCrack; (try simp only [Int.toNat_natCast]); repeat (first | rw [if_pos (by omega)] | rw [if_neg (by omega)])) <;> first | rfl | (exfalso; omega), (updZ M 0 1), by show 1 = _; (refine Eq.symm ?_; unfold pCrack; (try simp only [Int.toNat_natCast]); repeat (first | rw [if_pos (by omega)] | rw [if_neg (by omega)])) <;> first | rfl | (exfalso; omega), by show M 5 = M 5; first | rfl | omega, by show M 9 = M 9; first | rfl | omega, rfl⟩) dX10_crackYear_45
    · have cd_c_4 := of_decide_eq_true c_4
      refine lv_iconst (v := iI 0) hx hb dX10_crackYear_33 (by decide) ?_
      refine lv_goto (tgt := 38) hx hb dX10_crackYear_34 (by decide) ?_
      refine rw_V (As := [Value.int (iI 0)]) (rest := []) ⟨hx, hb, hml, hown, hts⟩ (c_X10_refused l g τ ma M 0 ⟨by decide, by decide⟩) gX10_crackYear_X10_refused cd_X10_refused rfl rfl ⟨rfl, rfl⟩ ⟨Nat.le_of_ble_eq_true rfl, Nat.le_of_ble_eq_true rfl⟩ hK hP hD hS [0] (rfl) (by decide) 0 rfl rfl rfl rfl hl rfl (Nat.le_of_ble_eq_true rfl) dX10_crackYear_38 ⟨Nat.le_of_ble_eq_true rfl, Nat.le_of_ble_eq_true rfl⟩ (fun v w h => by rw [h.2]; rfl) (fun v w1 H locs hZ hP hD hS => ?_)
      obtain ⟨rfl, rfl⟩ := hZ
      have hP : va_P g vwCl ([moO ma (updZ M 0 0), arC (ma 1) (τ 0) 291 (flR R)]) H := hP
      have hD : va_D A ([moO ma (updZ M 0 0), arC (ma 1) (τ 0) 291 (flR R)]) := hD
      refine tl_some ?_
      refine cv_i (y := iI 0) (congrArg iI (if_pos rfl)) ?_
      refine zi_if_eq (tgt := 46) hx hb ⟨by decide, by decide⟩ dX10_crackYear_41 (by decide) (fun c_6 => ?_) (fun c_6 => ?_)
      · skip
        obtain ⟨k1, rfl⟩ := Int.eq_ofNat_of_zero_le (show 0 ≤ w1 by omega)
        refine lv_aload_n hx hb dX10_crackYear_46 rfl (lv_at hl 0 rfl) ?_
        refine va_get (D := g) (ci := 10) (v := Value.ref (ma 1)) (C := RX10) (T := TX10) (N := 18) hx hb hts in_X10_crackYear_X10 hown hK.1 hP 0 (rfl) rfl 1 (by decide) (hts _ (List.mem_of_getElem? (i := 1) rfl) : (Cond.fieldLink RX10 7 "CordSealsModel" "now" "[I").before _ s = true) (fun _ h9 => h9) rfl dX10_crackYear_47 ?_
        refine lv_bipush (v := iI 65) hx hb dX10_crackYear_50 (by decide) ?_
        refine lv_iconst (v := iI 4) hx hb dX10_crackYear_52 (by decide) ?_
        refine lv_iload_n hx hb dX10_crackYear_53 rfl (lv_at hl 1 rfl) ?_
        refine zi_mul hx hb dX10_crackYear_54 ?_
        refine zi_add hx hb dX10_crackYear_55 ?_
        refine lv_iload_n hx hb dX10_crackYear_56 rfl (lv_at hl 2 rfl) ?_
        refine zi_add hx hb dX10_crackYear_57 ?_
        refine zf_ald hx hb hK hP 1 (f := flR R) rfl ((65 + (4 * r1)) + k1) (by omega) (by omega) (by decide) (z := R 9 (r1 * 4 + k1)) (fl_9 (i := r1 * 4 + k1) (by omega) (by omega)) dX10_crackYear_58 ?_
        have hb_7 := hB 9 (r1 * 4 + k1)
        exact rw_iret hx hb hr hlocks hP hS (⟨by (refine Eq.symm ?_; unfold pCrack; (try simp only [Int.toNat_natCast]); repeat (first | rw [if_pos (by omega)] | rw [if_neg (by omega)])) <;> first | rfl | (exfalso; omega), (updZ M 0 0), by show 0 = _; (refine Eq.symm ?_; unfold pCrack; (try simp only [Int.toNat_natCast]); repeat (first | rw [if_pos (by omega)] | rw [if_neg (by omega)])) <;> first | rfl | (exfalso; omega), by show M 5 = M 5; first | rfl | omega, by show M 9 = M 9; first | rfl | omega, rfl⟩) dX10_crackYear_59
      · exact absurd c_6 (by decide)

theorem cd_X10_ofSeal : cd yX10_ofSeal 2 := by decide +kernel
theorem in_X10_ofSeal_X10 : ∀ w ∈ wsX100, w ∈ wsX10_ofSeal := by decide +kernel
set_option maxHeartbeats 4000000 in
set_option maxRecDepth 100000 in
theorem c_X10_ofSeal (l : Launch) (g : va_G) (τ : Nat → ClassId) (ma : Nat → Nat) (M : Nat → Int) (R : Nat → Nat → Int) (hI : SI R) (z1 : Int) (rz1 : -2147483648 ≤ z1 ∧ z1 < 2147483648) (w1 : Int) (rw1 : -2147483648 ≤ w1 ∧ w1 < 2147483648)  : Met l yX10_ofSeal wsX10_ofSeal { frames := 2, cells := 0, slots := 0, locals := 47 } (va_Pc [Value.ref (ma 0), Value.int (iI z1), Value.int (iI w1)] (rwW g τ ([moO ma M, arC (ma 1) (τ 0) 291 (flR R)]))) (rwQ g (fun v w => v = some (Value.int (iI (pSeal R z1 w1).2)) ∧ ∃ M2 : Nat → Int, M2 0 = (pSeal R z1 w1).1 ∧ M2 5 = M 5 ∧ M2 9 = M 9 ∧ w = [moO ma M2, arC (ma 1) (τ 0) 291 (flR R)]) (inW ([moO ma M, arC (ma 1) (τ 0) 291 (flR R)]))) 0 0 (inW ([moO ma M, arC (ma 1) (τ 0) 291 (flR R)])) := by
  have hB := hI.hB
  have hr0 := hI.r
  have hd0 := hI.d
  have hs0 := hI.s
  refine rwMet (cc := cX10_ofSeal) (maxL := 4) (ret := (some .int)) (lv := [(0, Value.ref (ma 0)), (1, Value.int (iI z1)), (2, Value.int (iI w1))]) (by decide) rfl (Nat.le_of_ble_eq_true rfl) rfl ?_
  intro p e s m below meth c hx hb hr hml hts hown hlocks A H hP hD hS hK ls hl
  refine lv_aload_n hx hb dX10_ofSeal_0 rfl (lv_at hl 0 rfl) ?_
  refine lv_aload_n hx hb dX10_ofSeal_1 rfl (lv_at hl 0 rfl) ?_
  refine va_get (D := g) (ci := 10) (v := Value.ref (ma 1)) (C := RX10) (T := TX10) (N := 18) hx hb hts in_X10_ofSeal_X10 hown hK.1 hP 0 (rfl) rfl 1 (by decide) (hts _ (List.mem_of_getElem? (i := 1) rfl) : (Cond.fieldLink RX10 7 "CordSealsModel" "now" "[I").before _ s = true) (fun _ h9 => h9) rfl dX10_ofSeal_2 ?_
  refine lv_iload_n hx hb dX10_ofSeal_5 rfl (lv_at hl 1 rfl) ?_
  refine ro_S (As := [Value.ref (ma 1), Value.int (iI z1)]) (rest := [Value.ref (ma 0)]) (v := some (Value.int (iI (zB (decide (0 ≤ z1 ∧ z1 ≤ R 10 0 - 1)))))) ⟨hx, hb, hml, hown, hts⟩ (c_X10_hasSeal l g τ (ma 1) R hI z1 ⟨by omega, by omega⟩) gX10_ofSeal_X10_hasSeal cd_X10_hasSeal rfl ⟨rfl, rfl⟩ ⟨Nat.le_of_ble_eq_true rfl, Nat.le_of_ble_eq_true rfl⟩ hK (cut_P (is := [1]) hP rfl) rfl hl rfl (Nat.le_of_ble_eq_true rfl) dX10_ofSeal_6 ⟨Nat.le_of_ble_eq_true rfl, Nat.le_of_ble_eq_true rfl⟩ ?_
  refine tl_some ?_
  refine zb_if_ne (tgt := 16) hx hb dX10_ofSeal_9 (by decide) (fun c_1 => ?_) (fun c_1 => ?_)
  · have cd_c_1 := of_decide_eq_true c_1
    refine lv_iload_n hx hb dX10_ofSeal_16 rfl (lv_at hl 2 rfl) ?_
    refine lv_i2l (v := (iI w1).toInt64) hx hb dX10_ofSeal_17 rfl ?_
    refine cv_l (y := iL w1) (i2l_iL ⟨by omega, by omega⟩) ?_
    refine lv_lconst (v := 0) hx hb dX10_ofSeal_18 (by decide) ?_
    refine cv_l (y := iL 0) (by decide) ?_
    refine lv_ldc2 (v := 7) hx hb hown (hts _ (List.mem_of_getElem? (i := 2) rfl)) dX10_ofSeal_19 ?_
    refine cv_l (y := iL 7) (by decide) ?_
    refine ro_S (As := [Value.long (iL w1), Value.long (iL 0), Value.long (iL 7)]) (rest := [Value.ref (ma 0)]) (v := some (Value.int (iI (zB (decide (0 ≤ w1 ∧ w1 ≤ 7)))))) ⟨hx, hb, hml, hown, hts⟩ (c_X10_in l g τ w1 0 7 ⟨by omega, by omega⟩ ⟨by omega, by omega⟩ ⟨by omega, by omega⟩) gX10_ofSeal_X10_in cd_X10_in rfl ⟨rfl, rfl⟩ ⟨Nat.le_of_ble_eq_true rfl, Nat.le_of_ble_eq_true rfl⟩ hK (fun _ _ h => by cases h) rfl hl rfl (Nat.le_of_ble_eq_true rfl) dX10_ofSeal_22 ⟨Nat.le_of_ble_eq_true rfl, Nat.le_of_ble_eq_true rfl⟩ ?_
    refine tl_some ?_
    refine zb_if_ne (tgt := 32) hx hb dX10_ofSeal_25 (by decide) (fun c_2 => ?_) (fun c_2 => ?_)
    · have cd_c_2 := of_decide_eq_true c_2
      refine lv_iconst (v := iI 0) hx hb dX10_ofSeal_32 (by decide) ?_
      refine rw_V (As := [Value.int (iI 0)]) (rest := []) ⟨hx, hb, hml, hown, hts⟩ (c_X10_refused l g τ ma M 0 ⟨by decide, by decide⟩) gX10_ofSeal_X10_refused cd_X10_refused rfl rfl ⟨rfl, rfl⟩ ⟨Nat.le_of_ble_eq_true rfl, Nat.le_of_ble_eq_true rfl⟩ hK hP hD hS [0] (rfl) (by decide) 0 rfl rfl rfl rfl hl rfl (Nat.le_of_ble_eq_true rfl) dX10_ofSeal_33 ⟨Nat.le_of_ble_eq_true rfl, Nat.le_of_ble_eq_true rfl⟩ (fun v w h => by rw [h.2]; rfl) (fun v w1 H locs hZ hP hD hS => ?_)
      obtain ⟨rfl, rfl⟩ := hZ
      have hP : va_P g vwCl ([moO ma (updZ M 0 0), arC (ma 1) (τ 0) 291 (flR R)]) H := hP
      have hD : va_D A ([moO ma (updZ M 0 0), arC (ma 1) (τ 0) 291 (flR R)]) := hD
      refine tl_some ?_
      refine cv_i (y := iI 0) (congrArg iI (if_pos rfl)) ?_
      refine zi_if_eq (tgt := 41) hx hb ⟨by decide, by decide⟩ dX10_ofSeal_36 (by decide) (fun c_3 => ?_) (fun c_3 => ?_)
      · skip
        obtain ⟨r1, rfl⟩ := Int.eq_ofNat_of_zero_le (show 0 ≤ z1 by omega)
        refine lv_aload_n hx hb dX10_ofSeal_41 rfl (lv_at hl 0 rfl) ?_
        refine va_get (D := g) (ci := 10) (v := Value.ref (ma 1)) (C := RX10) (T := TX10) (N := 18) hx hb hts in_X10_ofSeal_X10 hown hK.1 hP 0 (rfl) rfl 1 (by decide) (hts _ (List.mem_of_getElem? (i := 1) rfl) : (Cond.fieldLink RX10 7 "CordSealsModel" "now" "[I").before _ s = true) (fun _ h9 => h9) rfl dX10_ofSeal_42 ?_
        refine lv_iload_n hx hb dX10_ofSeal_45 rfl (lv_at hl 1 rfl) ?_
        refine ro_S (As := [Value.ref (ma 1), Value.int (iI (r1 : Int))]) (rest := []) (v := some (Value.int (iI (plI 6 (sOf R (r1 : Int)))))) ⟨hx, hb, hml, hown, hts⟩ (e_X10_shelfOf l g τ (ma 1) R hI (r1 : Int) ⟨by omega, by omega⟩) gX10_ofSeal_X10_shelfOf cd_X10_shelfOf rfl ⟨rfl, rfl⟩ ⟨Nat.le_of_ble_eq_true rfl, Nat.le_of_ble_eq_true rfl⟩ hK (cut_P (is := [1]) hP rfl) rfl hl rfl (Nat.le_of_ble_eq_true rfl) dX10_ofSeal_46 ⟨Nat.le_of_ble_eq_true rfl, Nat.le_of_ble_eq_true rfl⟩ ?_
        refine tl_some ?_
        have := plI_r 6 (sOf R (r1 : Int))
        have hsle : sOf R (r1 : Int) ≤ 6 := fst_le _ _
        refine lv_istore_n (lv' := [(3, Value.int (iI (plI 6 (sOf R (r1 : Int))))), (0, Value.ref (ma 0)), (1, Value.int (iI (r1 : Int))), (2, Value.int (iI w1))]) hx hb dX10_ofSeal_49 rfl hl (by decide) rfl (fun ls hl => ?_)
        refine lv_iload_n hx hb dX10_ofSeal_50 rfl (lv_at hl 3 rfl) ?_
        by_cases k_4_0 : w1 = 0
        · refine zi_tabl (tgt := 92) (x := w1) k_4_0 hx hb ⟨by decide, by decide⟩ (v := 0) dX10_ofSeal_51 (by decide) (by decide) (off := 41) (by decide +kernel) (by decide) ?_
          refine lv_aload_n hx hb dX10_ofSeal_92 rfl (lv_at hl 1 rfl) ?_
          refine va_get (D := g) (ci := 10) (v := Value.ref (ma 1)) (C := RX10) (T := TX10) (N := 18) hx hb hts in_X10_ofSeal_X10 hown hK.1 hP 0 (rfl) rfl 1 (by decide) (hts _ (List.mem_of_getElem? (i := 1) rfl) : (Cond.fieldLink RX10 7 "CordSealsModel" "now" "[I").before _ s = true) (fun _ h9 => h9) rfl dX10_ofSeal_93 ?_
          refine lv_bipush (v := iI 105) hx hb dX10_ofSeal_96 (by decide) ?_
          refine lv_iload_n hx hb dX10_ofSeal_98 rfl (lv_at hl 2 rfl) ?_
          refine zi_add hx hb dX10_ofSeal_99 ?_
          refine zf_ald hx hb hK hP 1 (f := flR R) rfl (105 + r1) (by omega) (by omega) (by decide) (z := R 11 r1) (fl_11 (i := r1) (by omega) (by omega)) dX10_ofSeal_100 ?_
          have hb_5 := hB 11 r1
          exact rw_iret hx hb hr hlocks hP hS (⟨by (refine Eq.symm ?_; unfold pSeal; (try simp only [Int.toNat_natCast]); repeat (first | rw [if_pos (by omega)] | rw [if_neg (by omega)])) <;> first | rfl | (exfalso; omega), (updZ M 0 0), by show 0 = _; (refine Eq.symm ?_; unfold pSeal; (try simp only [Int.toNat_natCast]); repeat (first | rw [if_pos (by omega)] | rw [if_neg (by omega)])) <;> first | rfl | (exfalso; omega), by show M 5 = M 5; first | rfl | omega, by show M 9 = M 9; first | rfl | omega, rfl⟩) dX10_ofSeal_101
        by_cases k_4_1 : w1 = 1
        · refine zi_tabl (tgt := 102) (x := w1) k_4_1 hx hb ⟨by decide, by decide⟩ (v := 1) dX10_ofSeal_51 (by decide) (by decide) (off := 51) (by decide +kernel) (by decide) ?_
          refine lv_aload_n hx hb dX10_ofSeal_102 rfl (lv_at hl 1 rfl) ?_
          refine va_get (D := g) (ci := 10) (v := Value.ref (ma 1)) (C := RX10) (T := TX10) (N := 18) hx hb hts in_X10_ofSeal_X10 hown hK.1 hP 0 (rfl) rfl 1 (by decide) (hts _ (List.mem_of_getElem? (i := 1) rfl) : (Cond.fieldLink RX10 7 "CordSealsModel" "now" "[I").before _ s = true) (fun _ h9 => h9) rfl dX10_ofSeal_103 ?_
          refine lv_sipush (v := iI 129) hx hb dX10_ofSeal_106 (by decide) ?_
          refine lv_iload_n hx hb dX10_ofSeal_109 rfl (lv_at hl 2 rfl) ?_
          refine zi_add hx hb dX10_ofSeal_110 ?_
          refine zf_ald hx hb hK hP 1 (f := flR R) rfl (129 + r1) (by omega) (by omega) (by decide) (z := R 12 r1) (fl_12 (i := r1) (by omega) (by omega)) dX10_ofSeal_111 ?_
          have hb_6 := hB 12 r1
          exact rw_iret hx hb hr hlocks hP hS (⟨by (refine Eq.symm ?_; unfold pSeal; (try simp only [Int.toNat_natCast]); repeat (first | rw [if_pos (by omega)] | rw [if_neg (by omega)])) <;> first | rfl | (exfalso; omega), (updZ M 0 0), by show 0 = _; (refine Eq.symm ?_; unfold pSeal; (try simp only [Int.toNat_natCast]); repeat (first | rw [if_pos (by omega)] | rw [if_neg (by omega)])) <;> first | rfl | (exfalso; omega), by show M 5 = M 5; first | rfl | omega, by show M 9 = M 9; first | rfl | omega, rfl⟩) dX10_ofSeal_112
        by_cases k_4_2 : w1 = 2
        · refine zi_tabl (tgt := 113) (x := w1) k_4_2 hx hb ⟨by decide, by decide⟩ (v := 2) dX10_ofSeal_51 (by decide) (by decide) (off := 62) (by decide +kernel) (by decide) ?_
          refine lv_aload_n hx hb dX10_ofSeal_113 rfl (lv_at hl 1 rfl) ?_
          refine va_get (D := g) (ci := 10) (v := Value.ref (ma 1)) (C := RX10) (T := TX10) (N := 18) hx hb hts in_X10_ofSeal_X10 hown hK.1 hP 0 (rfl) rfl 1 (by decide) (hts _ (List.mem_of_getElem? (i := 1) rfl) : (Cond.fieldLink RX10 7 "CordSealsModel" "now" "[I").before _ s = true) (fun _ h9 => h9) rfl dX10_ofSeal_114 ?_
          refine lv_sipush (v := iI 153) hx hb dX10_ofSeal_117 (by decide) ?_
          refine lv_iload_n hx hb dX10_ofSeal_120 rfl (lv_at hl 2 rfl) ?_
          refine zi_add hx hb dX10_ofSeal_121 ?_
          refine zf_ald hx hb hK hP 1 (f := flR R) rfl (153 + r1) (by omega) (by omega) (by decide) (z := R 13 r1) (fl_13 (i := r1) (by omega) (by omega)) dX10_ofSeal_122 ?_
          have hb_7 := hB 13 r1
          exact rw_iret hx hb hr hlocks hP hS (⟨by (refine Eq.symm ?_; unfold pSeal; (try simp only [Int.toNat_natCast]); repeat (first | rw [if_pos (by omega)] | rw [if_neg (by omega)])) <;> first | rfl | (exfalso; omega), (updZ M 0 0), by show 0 = _; (refine Eq.symm ?_; unfold pSeal; (try simp only [Int.toNat_natCast]); repeat (first | rw [if_pos (by omega)] | rw [if_neg (by omega)])) <;> first | rfl | (exfalso; omega), by show M 5 = M 5; first | rfl | omega, by show M 9 = M 9; first | rfl | omega, rfl⟩) dX10_ofSeal_123
        by_cases k_4_3 : w1 = 3
        · refine zi_tabl (tgt := 124) (x := w1) k_4_3 hx hb ⟨by decide, by decide⟩ (v := 3) dX10_ofSeal_51 (by decide) (by decide) (off := 73) (by decide +kernel) (by decide) ?_
          refine lv_aload_n hx hb dX10_ofSeal_124 rfl (lv_at hl 1 rfl) ?_
          refine va_get (D := g) (ci := 10) (v := Value.ref (ma 1)) (C := RX10) (T := TX10) (N := 18) hx hb hts in_X10_ofSeal_X10 hown hK.1 hP 0 (rfl) rfl 1 (by decide) (hts _ (List.mem_of_getElem? (i := 1) rfl) : (Cond.fieldLink RX10 7 "CordSealsModel" "now" "[I").before _ s = true) (fun _ h9 => h9) rfl dX10_ofSeal_125 ?_
          refine lv_sipush (v := iI 177) hx hb dX10_ofSeal_128 (by decide) ?_
          refine lv_iload_n hx hb dX10_ofSeal_131 rfl (lv_at hl 2 rfl) ?_
          refine zi_add hx hb dX10_ofSeal_132 ?_
          refine zf_ald hx hb hK hP 1 (f := flR R) rfl (177 + r1) (by omega) (by omega) (by decide) (z := R 14 r1) (fl_14 (i := r1) (by omega) (by omega)) dX10_ofSeal_133 ?_
          have hb_8 := hB 14 r1
          exact rw_iret hx hb hr hlocks hP hS (⟨by (refine Eq.symm ?_; unfold pSeal; (try simp only [Int.toNat_natCast]); repeat (first | rw [if_pos (by omega)] | rw [if_neg (by omega)])) <;> first | rfl | (exfalso; omega), (updZ M 0 0), by show 0 = _; (refine Eq.symm ?_; unfold pSeal; (try simp only [Int.toNat_natCast]); repeat (first | rw [if_pos (by omega)] | rw [if_neg (by omega)])) <;> first | rfl | (exfalso; omega), by show M 5 = M 5; first | rfl | omega, by show M 9 = M 9; first | rfl | omega, rfl⟩) dX10_ofSeal_134
        by_cases k_4_4 : w1 = 4
        · refine zi_tabl (tgt := 135) (x := w1) k_4_4 hx hb ⟨by decide, by decide⟩ (v := 4) dX10_ofSeal_51 (by decide) (by decide) (off := 84) (by decide +kernel) (by decide) ?_
          refine lv_aload_n hx hb dX10_ofSeal_135 rfl (lv_at hl 1 rfl) ?_
          refine va_get (D := g) (ci := 10) (v := Value.ref (ma 1)) (C := RX10) (T := TX10) (N := 18) hx hb hts in_X10_ofSeal_X10 hown hK.1 hP 0 (rfl) rfl 1 (by decide) (hts _ (List.mem_of_getElem? (i := 1) rfl) : (Cond.fieldLink RX10 7 "CordSealsModel" "now" "[I").before _ s = true) (fun _ h9 => h9) rfl dX10_ofSeal_136 ?_
          refine lv_sipush (v := iI 201) hx hb dX10_ofSeal_139 (by decide) ?_
          refine lv_iload_n hx hb dX10_ofSeal_142 rfl (lv_at hl 2 rfl) ?_
          refine zi_add hx hb dX10_ofSeal_143 ?_
          refine zf_ald hx hb hK hP 1 (f := flR R) rfl (201 + r1) (by omega) (by omega) (by decide) (z := R 15 r1) (fl_15 (i := r1) (by omega) (by omega)) dX10_ofSeal_144 ?_
          have hb_9 := hB 15 r1
          exact rw_iret hx hb hr hlocks hP hS (⟨by (refine Eq.symm ?_; unfold pSeal; (try simp only [Int.toNat_natCast]); repeat (first | rw [if_pos (by omega)] | rw [if_neg (by omega)])) <;> first | rfl | (exfalso; omega), (updZ M 0 0), by show 0 = _; (refine Eq.symm ?_; unfold pSeal; (try simp only [Int.toNat_natCast]); repeat (first | rw [if_pos (by omega)] | rw [if_neg (by omega)])) <;> first | rfl | (exfalso; omega), by show M 5 = M 5; first | rfl | omega, by show M 9 = M 9; first | rfl | omega, rfl⟩) dX10_ofSeal_145
        by_cases k_4_5 : w1 = 5
        · refine zi_tabl (tgt := 146) (x := w1) k_4_5 hx hb ⟨by decide, by decide⟩ (v := 5) dX10_ofSeal_51 (by decide) (by decide) (off := 95) (by decide +kernel) (by decide) ?_
          refine lv_aload_n hx hb dX10_ofSeal_146 rfl (lv_at hl 1 rfl) ?_
          refine va_get (D := g) (ci := 10) (v := Value.ref (ma 1)) (C := RX10) (T := TX10) (N := 18) hx hb hts in_X10_ofSeal_X10 hown hK.1 hP 0 (rfl) rfl 1 (by decide) (hts _ (List.mem_of_getElem? (i := 1) rfl) : (Cond.fieldLink RX10 7 "CordSealsModel" "now" "[I").before _ s = true) (fun _ h9 => h9) rfl dX10_ofSeal_147 ?_
          refine lv_sipush (v := iI 225) hx hb dX10_ofSeal_150 (by decide) ?_
          refine lv_iload_n hx hb dX10_ofSeal_153 rfl (lv_at hl 2 rfl) ?_
          refine zi_add hx hb dX10_ofSeal_154 ?_
          refine zf_ald hx hb hK hP 1 (f := flR R) rfl (225 + r1) (by omega) (by omega) (by decide) (z := R 16 r1) (fl_16 (i := r1) (by omega) (by omega)) dX10_ofSeal_155 ?_
          have hb_10 := hB 16 r1
          exact rw_iret hx hb hr hlocks hP hS (⟨by (refine Eq.symm ?_; unfold pSeal; (try simp only [Int.toNat_natCast]); repeat (first | rw [if_pos (by omega)] | rw [if_neg (by omega)])) <;> first | rfl | (exfalso; omega), (updZ M 0 0), by show 0 = _; (refine Eq.symm ?_; unfold pSeal; (try simp only [Int.toNat_natCast]); repeat (first | rw [if_pos (by omega)] | rw [if_neg (by omega)])) <;> first | rfl | (exfalso; omega), by show M 5 = M 5; first | rfl | omega, by show M 9 = M 9; first | rfl | omega, rfl⟩) dX10_ofSeal_156
        by_cases k_4_6 : w1 = 6
        · refine zi_tabl (tgt := 157) (x := w1) k_4_6 hx hb ⟨by decide, by decide⟩ (v := 6) dX10_ofSeal_51 (by decide) (by decide) (off := 106) (by decide +kernel) (by decide) ?_
          refine lv_iload_n hx hb dX10_ofSeal_157 rfl (lv_at hl 0 rfl) ?_
          exact rw_iret hx hb hr hlocks hP hS (⟨by (refine Eq.symm ?_; unfold pSeal; (try simp only [Int.toNat_natCast]); repeat (first | rw [if_pos (by omega)] | rw [if_neg (by omega)])) <;> first | rfl | (exfalso; omega), (updZ M 0 0), by show 0 = _; (refine Eq.symm ?_; unfold pSeal; (try simp only [Int.toNat_natCast]); repeat (first | rw [if_pos (by omega)] | rw [if_neg (by omega)])) <;> first | rfl | (exfalso; omega), by show M 5 = M 5; first | rfl | omega, by show M 9 = M 9; first | rfl | omega, rfl⟩) dX10_ofSeal_158
        refine zi_tablD (x := w1) (tgt := 159) ⟨by omega, by omega⟩ hx hb dX10_ofSeal_51 (by omega) (by decide) ?_
        refine lv_iload_n hx hb dX10_ofSeal_159 rfl (lv_at hl 0 rfl) ?_
        refine lv_iconst (v := iI (-1)) hx hb dX10_ofSeal_160 (by decide) ?_
        refine zi_icmp_ne (tgt := 168) hx hb ⟨by omega, by omega⟩ ⟨by decide, by decide⟩ dX10_ofSeal_161 (by decide) (fun c_11 => ?_) (fun c_11 => ?_)
        · have _ := c_11
          have h6 := plI_yes (by assumption)
          rw [plI_lt h6] at hl
          refine lv_aload_n hx hb dX10_ofSeal_168 rfl (lv_at hl 1 rfl) ?_
          refine va_get (D := g) (ci := 10) (v := Value.ref (ma 1)) (C := RX10) (T := TX10) (N := 18) hx hb hts in_X10_ofSeal_X10 hown hK.1 hP 0 (rfl) rfl 1 (by decide) (hts _ (List.mem_of_getElem? (i := 1) rfl) : (Cond.fieldLink RX10 7 "CordSealsModel" "now" "[I").before _ s = true) (fun _ h9 => h9) rfl dX10_ofSeal_169 ?_
          refine lv_iload_n hx hb dX10_ofSeal_172 rfl (lv_at hl 2 rfl) ?_
          refine lv_iload_n hx hb dX10_ofSeal_173 rfl (lv_at hl 0 rfl) ?_
          refine ro_S (As := [Value.ref (ma 1), Value.int (iI (r1 : Int)), Value.int (iI ((sOf R (r1 : Int) : Nat) : Int))]) (rest := []) (v := some (Value.int (iI (plI (shN R (sOf R (r1 : Int))) (pOn R (sOf R (r1 : Int)) (r1 : Int)))))) ⟨hx, hb, hml, hown, hts⟩ (e_X10_placeOn l g τ (ma 1) R hI (r1 : Int) ⟨by omega, by omega⟩ (sOf R (r1 : Int)) (by omega)) gX10_ofSeal_X10_placeOn cd_X10_placeOn rfl ⟨rfl, rfl⟩ ⟨Nat.le_of_ble_eq_true rfl, Nat.le_of_ble_eq_true rfl⟩ hK (cut_P (is := [1]) hP rfl) rfl hl rfl (Nat.le_of_ble_eq_true rfl) dX10_ofSeal_174 ⟨Nat.le_of_ble_eq_true rfl, Nat.le_of_ble_eq_true rfl⟩ ?_
          refine tl_some ?_
          have := plI_r (shN R (sOf R (r1 : Int))) (pOn R (sOf R (r1 : Int)) (r1 : Int))
          have hple : pOn R (sOf R (r1 : Int)) (r1 : Int) ≤ shN R (sOf R (r1 : Int)) := fst_le _ _
          have hnn := hI.hN (sOf R (r1 : Int)) (by omega)
          have hsd : shN R (sOf R (r1 : Int)) = (R 18 (sOf R (r1 : Int))).toNat := rfl
          exact rw_iret hx hb hr hlocks hP hS (⟨by (refine Eq.symm ?_; unfold pSeal; (try simp only [Int.toNat_natCast]); repeat (first | rw [if_pos (by omega)] | rw [if_neg (by omega)])) <;> first | rfl | (exfalso; omega), (updZ M 0 0), by show 0 = _; (refine Eq.symm ?_; unfold pSeal; (try simp only [Int.toNat_natCast]); repeat (first | rw [if_pos (by omega)] | rw [if_neg (by omega)])) <;> first | rfl | (exfalso; omega), by show M 5 = M 5; first | rfl | omega, by show M 9 = M 9; first | rfl | omega, rfl⟩) dX10_ofSeal_177
        · have _ := c_11
          have h6 := plI_no c_11
          refine lv_iconst (v := iI (-1)) hx hb dX10_ofSeal_164 (by decide) ?_
          refine lv_goto (tgt := 177) hx hb dX10_ofSeal_165 (by decide) ?_
          exact rw_iret hx hb hr hlocks hP hS (⟨by (refine Eq.symm ?_; unfold pSeal; (try simp only [Int.toNat_natCast]); repeat (first | rw [if_pos (by omega)] | rw [if_neg (by omega)])) <;> first | rfl | (exfalso; omega), (updZ M 0 0), by show 0 = _; (refine Eq.symm ?_; unfold pSeal; (try simp only [Int.toNat_natCast]); repeat (first | rw [if_pos (by omega)] | rw [if_neg (by omega)])) <;> first | rfl | (exfalso; omega), by show M 5 = M 5; first | rfl | omega, by show M 9 = M 9; first | rfl | omega, rfl⟩) dX10_ofSeal_177
      · exact absurd c_3 (by decide)
    · have cd_c_2 := of_decide_eq_false c_2
      refine lv_iconst (v := iI 2) hx hb dX10_ofSeal_28 (by decide) ?_
      refine lv_goto (tgt := 33) hx hb dX10_ofSeal_29 (by decide) ?_
      refine rw_V (As := [Value.int (iI 2)]) (rest := []) ⟨hx, hb, hml, hown, hts⟩ (c_X10_refused l g τ ma M 2 ⟨by decide, by decide⟩) gX10_ofSeal_X10_refused cd_X10_refused rfl rfl ⟨rfl, rfl⟩ ⟨Nat.le_of_ble_eq_true rfl, Nat.le_of_ble_eq_true rfl⟩ hK hP hD hS [0] (rfl) (by decide) 0 rfl rfl rfl rfl hl rfl (Nat.le_of_ble_eq_true rfl) dX10_ofSeal_33 ⟨Nat.le_of_ble_eq_true rfl, Nat.le_of_ble_eq_true rfl⟩ (fun v w h => by rw [h.2]; rfl) (fun v w1 H locs hZ hP hD hS => ?_)
      obtain ⟨rfl, rfl⟩ := hZ
      have hP : va_P g vwCl ([moO ma (updZ M 0 2), arC (ma 1) (τ 0) 291 (flR R)]) H := hP
      have hD : va_D A ([moO ma (updZ M 0 2), arC (ma 1) (τ 0) 291 (flR R)]) := hD
      refine tl_some ?_
      refine cv_i (y := iI 1) (congrArg iI (if_neg (by decide))) ?_
      refine zi_if_eq (tgt := 41) hx hb ⟨by decide, by decide⟩ dX10_ofSeal_36 (by decide) (fun c_12 => ?_) (fun c_12 => ?_)
      · exact absurd c_12 (by decide)
      refine lv_iconst (v := iI 0) hx hb dX10_ofSeal_39 (by decide) ?_
      exact rw_iret hx hb hr hlocks hP hS (⟨by (refine Eq.symm ?_; unfold pSeal; (try simp only [Int.toNat_natCast]); repeat (first | rw [if_pos (by omega)] | rw [if_neg (by omega)])) <;> first | rfl | (exfalso; omega), (updZ M 0 2), by show 2 = _; (refine Eq.symm ?_; unfold pSeal; (try simp only [Int.toNat_natCast]); repeat (first | rw [if_pos (by omega)] | rw [if_neg (by omega)])) <;> first | rfl | (exfalso; omega), by show M 5 = M 5; first | rfl | omega, by show M 9 = M 9; first | rfl | omega, rfl⟩) dX10_ofSeal_40
  · have cd_c_1 := of_decide_eq_false c_1
    refine lv_iconst (v := iI 1) hx hb dX10_ofSeal_12 (by decide) ?_
    refine lv_goto (tgt := 33) hx hb dX10_ofSeal_13 (by decide) ?_
    refine rw_V (As := [Value.int (iI 1)]) (rest := []) ⟨hx, hb, hml, hown, hts⟩ (c_X10_refused l g τ ma M 1 ⟨by decide, by decide⟩) gX10_ofSeal_X10_refused cd_X10_refused rfl rfl ⟨rfl, rfl⟩ ⟨Nat.le_of_ble_eq_true rfl, Nat.le_of_ble_eq_true rfl⟩ hK hP hD hS [0] (rfl) (by decide) 0 rfl rfl rfl rfl hl rfl (Nat.le_of_ble_eq_true rfl) dX10_ofSeal_33 ⟨Nat.le_of_ble_eq_true rfl, Nat.le_of_ble_eq_true rfl⟩ (fun v w h => by rw [h.2]; rfl) (fun v w1 H locs hZ hP hD hS => ?_)
    obtain ⟨rfl, rfl⟩ := hZ
    have hP : va_P g vwCl ([moO ma (updZ M 0 1), arC (ma 1) (τ 0) 291 (flR R)]) H := hP
    have hD : va_D A ([moO ma (updZ M 0 1), arC (ma 1) (τ 0) 291 (flR R)]) := hD
    refine tl_some ?_
    refine cv_i (y := iI 1) (congrArg iI (if_neg (by decide))) ?_
    refine zi_if_eq (tgt := 41) hx hb ⟨by decide, by decide⟩ dX10_ofSeal_36 (by decide) (fun c_13 => ?_) (fun c_13 => ?_)
    · exact absurd c_13 (by decide)
    refine lv_iconst (v := iI 0) hx hb dX10_ofSeal_39 (by decide) ?_
    exact rw_iret hx hb hr hlocks hP hS (⟨by (refine Eq.symm ?_; unfold pSeal; (try simp only [Int.toNat_natCast]); repeat (first | rw [if_pos (by omega)] | rw [if_neg (by omega)])) <;> first | rfl | (exfalso; omega), (updZ M 0 1), by show 1 = _; (refine Eq.symm ?_; unfold pSeal; (try simp only [Int.toNat_natCast]); repeat (first | rw [if_pos (by omega)] | rw [if_neg (by omega)])) <;> first | rfl | (exfalso; omega), by show M 5 = M 5; first | rfl | omega, by show M 9 = M 9; first | rfl | omega, rfl⟩) dX10_ofSeal_40

theorem cd_X10_dated : cd yX10_dated 2 := by decide +kernel
theorem in_X10_dated_X10 : ∀ w ∈ wsX100, w ∈ wsX10_dated := by decide +kernel
set_option maxHeartbeats 1000000 in
set_option maxRecDepth 100000 in
theorem c_X10_dated (l : Launch) (g : va_G) (τ : Nat → ClassId) (ma : Nat → Nat) (M : Nat → Int) (R : Nat → Nat → Int) (hI : SI R) (z1 : Int) (rz1 : -2147483648 ≤ z1 ∧ z1 < 2147483648) (w1 : Int) (rw1 : -2147483648 ≤ w1 ∧ w1 < 2147483648)  : Met l yX10_dated wsX10_dated { frames := 7, cells := 0, slots := 0, locals := 166 } (va_Pc [Value.ref (ma 0), Value.int (iI z1), Value.int (iI w1)] (rwW g τ ([moO ma M, arC (ma 1) (τ 0) 291 (flR R)]))) (rwQ g (fun v w => v = some (Value.int (iI (pDated R z1 w1).2)) ∧ ∃ M2 : Nat → Int, M2 0 = (pDated R z1 w1).1 ∧ M2 5 = M 5 ∧ M2 9 = M 9 ∧ w = [moO ma M2, arC (ma 1) (τ 0) 291 (flR R)]) (inW ([moO ma M, arC (ma 1) (τ 0) 291 (flR R)]))) 0 0 (inW ([moO ma M, arC (ma 1) (τ 0) 291 (flR R)])) := by
  have hB := hI.hB
  have hr0 := hI.r
  have hd0 := hI.d
  have hs0 := hI.s
  refine rwMet (cc := cX10_dated) (maxL := 3) (ret := (some .int)) (lv := [(0, Value.ref (ma 0)), (1, Value.int (iI z1)), (2, Value.int (iI w1))]) (by decide) rfl (Nat.le_of_ble_eq_true rfl) rfl ?_
  intro p e s m below meth c hx hb hr hml hts hown hlocks A H hP hD hS hK ls hl
  refine lv_aload_n hx hb dX10_dated_0 rfl (lv_at hl 0 rfl) ?_
  refine lv_aload_n hx hb dX10_dated_1 rfl (lv_at hl 0 rfl) ?_
  refine va_get (D := g) (ci := 10) (v := Value.ref (ma 1)) (C := RX10) (T := TX10) (N := 18) hx hb hts in_X10_dated_X10 hown hK.1 hP 0 (rfl) rfl 1 (by decide) (hts _ (List.mem_of_getElem? (i := 1) rfl) : (Cond.fieldLink RX10 7 "CordSealsModel" "now" "[I").before _ s = true) (fun _ h9 => h9) rfl dX10_dated_2 ?_
  refine lv_iload_n hx hb dX10_dated_5 rfl (lv_at hl 1 rfl) ?_
  refine ro_S (As := [Value.ref (ma 1), Value.int (iI z1)]) (rest := [Value.ref (ma 0)]) (v := some (Value.int (iI (zB (decide (0 ≤ z1 ∧ z1 ≤ R 10 0 - 1)))))) ⟨hx, hb, hml, hown, hts⟩ (c_X10_hasSeal l g τ (ma 1) R hI z1 ⟨by omega, by omega⟩) gX10_dated_X10_hasSeal cd_X10_hasSeal rfl ⟨rfl, rfl⟩ ⟨Nat.le_of_ble_eq_true rfl, Nat.le_of_ble_eq_true rfl⟩ hK (cut_P (is := [1]) hP rfl) rfl hl rfl (Nat.le_of_ble_eq_true rfl) dX10_dated_6 ⟨Nat.le_of_ble_eq_true rfl, Nat.le_of_ble_eq_true rfl⟩ ?_
  refine tl_some ?_
  refine zb_if_ne (tgt := 16) hx hb dX10_dated_9 (by decide) (fun c_1 => ?_) (fun c_1 => ?_)
  · have cd_c_1 := of_decide_eq_true c_1
    refine lv_iload_n hx hb dX10_dated_16 rfl (lv_at hl 2 rfl) ?_
    refine lv_i2l (v := (iI w1).toInt64) hx hb dX10_dated_17 rfl ?_
    refine cv_l (y := iL w1) (i2l_iL ⟨by omega, by omega⟩) ?_
    refine lv_lconst (v := 0) hx hb dX10_dated_18 (by decide) ?_
    refine cv_l (y := iL 0) (by decide) ?_
    refine lv_ldc2 (v := 3) hx hb hown (hts _ (List.mem_of_getElem? (i := 2) rfl)) dX10_dated_19 ?_
    refine cv_l (y := iL 3) (by decide) ?_
    refine ro_S (As := [Value.long (iL w1), Value.long (iL 0), Value.long (iL 3)]) (rest := [Value.ref (ma 0)]) (v := some (Value.int (iI (zB (decide (0 ≤ w1 ∧ w1 ≤ 3)))))) ⟨hx, hb, hml, hown, hts⟩ (c_X10_in l g τ w1 0 3 ⟨by omega, by omega⟩ ⟨by omega, by omega⟩ ⟨by omega, by omega⟩) gX10_dated_X10_in cd_X10_in rfl ⟨rfl, rfl⟩ ⟨Nat.le_of_ble_eq_true rfl, Nat.le_of_ble_eq_true rfl⟩ hK (fun _ _ h => by cases h) rfl hl rfl (Nat.le_of_ble_eq_true rfl) dX10_dated_22 ⟨Nat.le_of_ble_eq_true rfl, Nat.le_of_ble_eq_true rfl⟩ ?_
    refine tl_some ?_
    refine zb_if_ne (tgt := 32) hx hb dX10_dated_25 (by decide) (fun c_2 => ?_) (fun c_2 => ?_)
    · have cd_c_2 := of_decide_eq_true c_2
      refine lv_iconst (v := iI 0) hx hb dX10_dated_32 (by decide) ?_
      refine rw_V (As := [Value.int (iI 0)]) (rest := []) ⟨hx, hb, hml, hown, hts⟩ (c_X10_refused l g τ ma M 0 ⟨by decide, by decide⟩) gX10_dated_X10_refused cd_X10_refused rfl rfl ⟨rfl, rfl⟩ ⟨Nat.le_of_ble_eq_true rfl, Nat.le_of_ble_eq_true rfl⟩ hK hP hD hS [0] (rfl) (by decide) 0 rfl rfl rfl rfl hl rfl (Nat.le_of_ble_eq_true rfl) dX10_dated_33 ⟨Nat.le_of_ble_eq_true rfl, Nat.le_of_ble_eq_true rfl⟩ (fun v w h => by rw [h.2]; rfl) (fun v w1 H locs hZ hP hD hS => ?_)
      obtain ⟨rfl, rfl⟩ := hZ
      have hP : va_P g vwCl ([moO ma (updZ M 0 0), arC (ma 1) (τ 0) 291 (flR R)]) H := hP
      have hD : va_D A ([moO ma (updZ M 0 0), arC (ma 1) (τ 0) 291 (flR R)]) := hD
      refine tl_some ?_
      refine cv_i (y := iI 0) (congrArg iI (if_pos rfl)) ?_
      refine zi_if_eq (tgt := 41) hx hb ⟨by decide, by decide⟩ dX10_dated_36 (by decide) (fun c_3 => ?_) (fun c_3 => ?_)
      · skip
        obtain ⟨r1, rfl⟩ := Int.eq_ofNat_of_zero_le (show 0 ≤ z1 by omega)
        refine lv_iload_n hx hb dX10_dated_41 rfl (lv_at hl 2 rfl) ?_
        refine lv_iconst (v := iI 3) hx hb dX10_dated_42 (by decide) ?_
        refine zi_icmp_ne (tgt := 58) hx hb ⟨by omega, by omega⟩ ⟨by decide, by decide⟩ dX10_dated_43 (by decide) (fun c_4 => ?_) (fun c_4 => ?_)
        · have _ := c_4
          refine lv_aload_n hx hb dX10_dated_58 rfl (lv_at hl 0 rfl) ?_
          refine va_get (D := g) (ci := 10) (v := Value.ref (ma 1)) (C := RX10) (T := TX10) (N := 18) hx hb hts in_X10_dated_X10 hown hK.1 hP 0 (rfl) rfl 1 (by decide) (hts _ (List.mem_of_getElem? (i := 1) rfl) : (Cond.fieldLink RX10 7 "CordSealsModel" "now" "[I").before _ s = true) (fun _ h9 => h9) rfl dX10_dated_59 ?_
          refine lv_iload_n hx hb dX10_dated_62 rfl (lv_at hl 1 rfl) ?_
          refine lv_iload_n hx hb dX10_dated_63 rfl (lv_at hl 2 rfl) ?_
          refine ro_S (As := [Value.ref (ma 1), Value.int (iI (r1 : Int)), Value.int (iI w1)]) (rest := []) (v := some (Value.int (iI (rY R (sLo R r1) (sHi R r1) (rMask R r1) w1)))) ⟨hx, hb, hml, hown, hts⟩ (c_X10_yearsOf l g τ (ma 1) R hI r1 (by omega) w1 (by omega)) gX10_dated_X10_yearsOf cd_X10_yearsOf rfl ⟨rfl, rfl⟩ ⟨Nat.le_of_ble_eq_true rfl, Nat.le_of_ble_eq_true rfl⟩ hK (cut_P (is := [1]) hP rfl) rfl hl rfl (Nat.le_of_ble_eq_true rfl) dX10_dated_64 ⟨Nat.le_of_ble_eq_true rfl, Nat.le_of_ble_eq_true rfl⟩ ?_
          refine tl_some ?_
          have := rY_b hI (lo := sLo R r1) (hi := sHi R r1) (w := rMask R r1) (sLo_b hI _) (sHi_b hI _) w1
          have := y0_b hI r1
          exact rw_iret hx hb hr hlocks hP hS (⟨by (refine Eq.symm ?_; unfold pDated; (try simp only [Int.toNat_natCast]); repeat (first | rw [if_pos (by omega)] | rw [if_neg (by omega)])) <;> first | rfl | (exfalso; omega), (updZ M 0 0), by show 0 = _; (refine Eq.symm ?_; unfold pDated; (try simp only [Int.toNat_natCast]); repeat (first | rw [if_pos (by omega)] | rw [if_neg (by omega)])) <;> first | rfl | (exfalso; omega), by show M 5 = M 5; first | rfl | omega, by show M 9 = M 9; first | rfl | omega, rfl⟩) dX10_dated_67
        · have _ := c_4
          refine lv_aload_n hx hb dX10_dated_46 rfl (lv_at hl 0 rfl) ?_
          refine lv_aload_n hx hb dX10_dated_47 rfl (lv_at hl 0 rfl) ?_
          refine va_get (D := g) (ci := 10) (v := Value.ref (ma 1)) (C := RX10) (T := TX10) (N := 18) hx hb hts in_X10_dated_X10 hown hK.1 hP 0 (rfl) rfl 1 (by decide) (hts _ (List.mem_of_getElem? (i := 1) rfl) : (Cond.fieldLink RX10 7 "CordSealsModel" "now" "[I").before _ s = true) (fun _ h9 => h9) rfl dX10_dated_48 ?_
          refine lv_iload_n hx hb dX10_dated_51 rfl (lv_at hl 1 rfl) ?_
          refine rw_V (As := [Value.ref (ma 1), Value.int (iI (r1 : Int))]) (rest := []) ⟨hx, hb, hml, hown, hts⟩ (c_X10_fake l g τ ma (updZ M 0 0) (ma 1) R hI r1 (by omega)) gX10_dated_X10_fake cd_X10_fake rfl rfl ⟨rfl, rfl⟩ ⟨Nat.le_of_ble_eq_true rfl, Nat.le_of_ble_eq_true rfl⟩ hK hP hD hS [0, 1] (rfl) (by decide) 0 rfl rfl rfl rfl hl rfl (Nat.le_of_ble_eq_true rfl) dX10_dated_52 ⟨Nat.le_of_ble_eq_true rfl, Nat.le_of_ble_eq_true rfl⟩ (fun v w h => by obtain ⟨-, M9, -, rfl⟩ := h; rfl) (fun v w1 H locs hZ hP hD hS => ?_)
          obtain ⟨rfl, M_5, hgM_5, rfl⟩ := hZ
          have hP : va_P g vwCl ([moO ma M_5, arC (ma 1) (τ 0) 291 (flR R)]) H := hP
          have hD : va_D A ([moO ma M_5, arC (ma 1) (τ 0) 291 (flR R)]) := hD
          have hfM_5_0 : M_5 0 = 0 := hgM_5 0 (by decide)
          have hfM_5_5 : M_5 5 = M 5 := hgM_5 5 (by decide)
          have hfM_5_9 : M_5 9 = M 9 := hgM_5 9 (by decide)
          have hfM_5_10 : M_5 10 = M 10 := hgM_5 10 (by decide)
          have hfM_5_11 : M_5 11 = M 11 := hgM_5 11 (by decide)
          have hfM_5_12 : M_5 12 = M 12 := hgM_5 12 (by decide)
          have := rFk_b R r1
          refine tl_some ?_
          refine lv_goto (tgt := 67) hx hb dX10_dated_55 (by decide) ?_
          exact rw_iret hx hb hr hlocks hP hS (⟨by (refine Eq.symm ?_; unfold pDated; (try simp only [Int.toNat_natCast]); repeat (first | rw [if_pos (by omega)] | rw [if_neg (by omega)])) <;> first | rfl | (exfalso; omega), M_5, by show M_5 0 = _; rw [show M_5 0 = 0 from by omega]; (refine Eq.symm ?_; unfold pDated; (try simp only [Int.toNat_natCast]); repeat (first | rw [if_pos (by omega)] | rw [if_neg (by omega)])) <;> first | rfl | (exfalso; omega), by show M_5 5 = M 5; first | rfl | omega, by show M_5 9 = M 9; first | rfl | omega, rfl⟩) dX10_dated_67
      · exact absurd c_3 (by decide)
    · have cd_c_2 := of_decide_eq_false c_2
      refine lv_iconst (v := iI 2) hx hb dX10_dated_28 (by decide) ?_
      refine lv_goto (tgt := 33) hx hb dX10_dated_29 (by decide) ?_
      refine rw_V (As := [Value.int (iI 2)]) (rest := []) ⟨hx, hb, hml, hown, hts⟩ (c_X10_refused l g τ ma M 2 ⟨by decide, by decide⟩) gX10_dated_X10_refused cd_X10_refused rfl rfl ⟨rfl, rfl⟩ ⟨Nat.le_of_ble_eq_true rfl, Nat.le_of_ble_eq_true rfl⟩ hK hP hD hS [0] (rfl) (by decide) 0 rfl rfl rfl rfl hl rfl (Nat.le_of_ble_eq_true rfl) dX10_dated_33 ⟨Nat.le_of_ble_eq_true rfl, Nat.le_of_ble_eq_true rfl⟩ (fun v w h => by rw [h.2]; rfl) (fun v w1 H locs hZ hP hD hS => ?_)
      obtain ⟨rfl, rfl⟩ := hZ
      have hP : va_P g vwCl ([moO ma (updZ M 0 2), arC (ma 1) (τ 0) 291 (flR R)]) H := hP
      have hD : va_D A ([moO ma (updZ M 0 2), arC (ma 1) (τ 0) 291 (flR R)]) := hD
      refine tl_some ?_
      refine cv_i (y := iI 1) (congrArg iI (if_neg (by decide))) ?_
      refine zi_if_eq (tgt := 41) hx hb ⟨by decide, by decide⟩ dX10_dated_36 (by decide) (fun c_6 => ?_) (fun c_6 => ?_)
      · exact absurd c_6 (by decide)
      refine lv_iconst (v := iI 0) hx hb dX10_dated_39 (by decide) ?_
      exact rw_iret hx hb hr hlocks hP hS (⟨by (refine Eq.symm ?_; unfold pDated; (try simp only [Int.toNat_natCast]); repeat (first | rw [if_pos (by omega)] | rw [if_neg (by omega)])) <;> first | rfl | (exfalso; omega), (updZ M 0 2), by show 2 = _; (refine Eq.symm ?_; unfold pDated; (try simp only [Int.toNat_natCast]); repeat (first | rw [if_pos (by omega)] | rw [if_neg (by omega)])) <;> first | rfl | (exfalso; omega), by show M 5 = M 5; first | rfl | omega, by show M 9 = M 9; first | rfl | omega, rfl⟩) dX10_dated_40
  · have cd_c_1 := of_decide_eq_false c_1
    refine lv_iconst (v := iI 1) hx hb dX10_dated_12 (by decide) ?_
    refine lv_goto (tgt := 33) hx hb dX10_dated_13 (by decide) ?_
    refine rw_V (As := [Value.int (iI 1)]) (rest := []) ⟨hx, hb, hml, hown, hts⟩ (c_X10_refused l g τ ma M 1 ⟨by decide, by decide⟩) gX10_dated_X10_refused cd_X10_refused rfl rfl ⟨rfl, rfl⟩ ⟨Nat.le_of_ble_eq_true rfl, Nat.le_of_ble_eq_true rfl⟩ hK hP hD hS [0] (rfl) (by decide) 0 rfl rfl rfl rfl hl rfl (Nat.le_of_ble_eq_true rfl) dX10_dated_33 ⟨Nat.le_of_ble_eq_true rfl, Nat.le_of_ble_eq_true rfl⟩ (fun v w h => by rw [h.2]; rfl) (fun v w1 H locs hZ hP hD hS => ?_)
    obtain ⟨rfl, rfl⟩ := hZ
    have hP : va_P g vwCl ([moO ma (updZ M 0 1), arC (ma 1) (τ 0) 291 (flR R)]) H := hP
    have hD : va_D A ([moO ma (updZ M 0 1), arC (ma 1) (τ 0) 291 (flR R)]) := hD
    refine tl_some ?_
    refine cv_i (y := iI 1) (congrArg iI (if_neg (by decide))) ?_
    refine zi_if_eq (tgt := 41) hx hb ⟨by decide, by decide⟩ dX10_dated_36 (by decide) (fun c_7 => ?_) (fun c_7 => ?_)
    · exact absurd c_7 (by decide)
    refine lv_iconst (v := iI 0) hx hb dX10_dated_39 (by decide) ?_
    exact rw_iret hx hb hr hlocks hP hS (⟨by (refine Eq.symm ?_; unfold pDated; (try simp only [Int.toNat_natCast]); repeat (first | rw [if_pos (by omega)] | rw [if_neg (by omega)])) <;> first | rfl | (exfalso; omega), (updZ M 0 1), by show 1 = _; (refine Eq.symm ?_; unfold pDated; (try simp only [Int.toNat_natCast]); repeat (first | rw [if_pos (by omega)] | rw [if_neg (by omega)])) <;> first | rfl | (exfalso; omega), by show M 5 = M 5; first | rfl | omega, by show M 9 = M 9; first | rfl | omega, rfl⟩) dX10_dated_40

theorem cd_X10_isPossible : cd yX10_isPossible 2 := by decide +kernel
theorem in_X10_isPossible_X10 : ∀ w ∈ wsX100, w ∈ wsX10_isPossible := by decide +kernel
set_option maxHeartbeats 1000000 in
set_option maxRecDepth 100000 in
theorem c_X10_isPossible (l : Launch) (g : va_G) (τ : Nat → ClassId) (ma : Nat → Nat) (M : Nat → Int) (R : Nat → Nat → Int) (hI : SI R) (z1 : Int) (rz1 : -2147483648 ≤ z1 ∧ z1 < 2147483648) (y1 : Int) (ry1 : -2147483648 ≤ y1 ∧ y1 < 2147483648)  : Met l yX10_isPossible wsX10_isPossible { frames := 3, cells := 0, slots := 0, locals := 74 } (va_Pc [Value.ref (ma 0), Value.int (iI z1), Value.int (iI y1)] (rwW g τ ([moO ma M, arC (ma 1) (τ 0) 291 (flR R)]))) (rwQ g (fun v w => v = some (Value.int (iI (pPoss R z1 y1).2)) ∧ ∃ M2 : Nat → Int, M2 0 = (pPoss R z1 y1).1 ∧ M2 5 = M 5 ∧ M2 9 = M 9 ∧ w = [moO ma M2, arC (ma 1) (τ 0) 291 (flR R)]) (inW ([moO ma M, arC (ma 1) (τ 0) 291 (flR R)]))) 0 0 (inW ([moO ma M, arC (ma 1) (τ 0) 291 (flR R)])) := by
  have hB := hI.hB
  have hr0 := hI.r
  have hd0 := hI.d
  have hs0 := hI.s
  refine rwMet (cc := cX10_isPossible) (maxL := 3) (ret := (some .boolean)) (lv := [(0, Value.ref (ma 0)), (1, Value.int (iI z1)), (2, Value.int (iI y1))]) (by decide) rfl (Nat.le_of_ble_eq_true rfl) rfl ?_
  intro p e s m below meth c hx hb hr hml hts hown hlocks A H hP hD hS hK ls hl
  refine lv_aload_n hx hb dX10_isPossible_0 rfl (lv_at hl 0 rfl) ?_
  refine lv_aload_n hx hb dX10_isPossible_1 rfl (lv_at hl 0 rfl) ?_
  refine va_get (D := g) (ci := 10) (v := Value.ref (ma 1)) (C := RX10) (T := TX10) (N := 18) hx hb hts in_X10_isPossible_X10 hown hK.1 hP 0 (rfl) rfl 1 (by decide) (hts _ (List.mem_of_getElem? (i := 1) rfl) : (Cond.fieldLink RX10 7 "CordSealsModel" "now" "[I").before _ s = true) (fun _ h9 => h9) rfl dX10_isPossible_2 ?_
  refine lv_iload_n hx hb dX10_isPossible_5 rfl (lv_at hl 1 rfl) ?_
  refine ro_S (As := [Value.ref (ma 1), Value.int (iI z1)]) (rest := [Value.ref (ma 0)]) (v := some (Value.int (iI (zB (decide (0 ≤ z1 ∧ z1 ≤ R 10 0 - 1)))))) ⟨hx, hb, hml, hown, hts⟩ (c_X10_hasSeal l g τ (ma 1) R hI z1 ⟨by omega, by omega⟩) gX10_isPossible_X10_hasSeal cd_X10_hasSeal rfl ⟨rfl, rfl⟩ ⟨Nat.le_of_ble_eq_true rfl, Nat.le_of_ble_eq_true rfl⟩ hK (cut_P (is := [1]) hP rfl) rfl hl rfl (Nat.le_of_ble_eq_true rfl) dX10_isPossible_6 ⟨Nat.le_of_ble_eq_true rfl, Nat.le_of_ble_eq_true rfl⟩ ?_
  refine tl_some ?_
  refine zb_if_ne (tgt := 16) hx hb dX10_isPossible_9 (by decide) (fun c_1 => ?_) (fun c_1 => ?_)
  · have cd_c_1 := of_decide_eq_true c_1
    refine lv_iload_n hx hb dX10_isPossible_16 rfl (lv_at hl 2 rfl) ?_
    refine ro_S (As := [Value.int (iI y1)]) (rest := [Value.ref (ma 0)]) (v := some (Value.int (iI (zB (decide (1000 ≤ y1 ∧ y1 ≤ 1999)))))) ⟨hx, hb, hml, hown, hts⟩ (c_X10_isYear l g τ y1 ⟨by omega, by omega⟩) gX10_isPossible_X10_isYear cd_X10_isYear rfl ⟨rfl, rfl⟩ ⟨Nat.le_of_ble_eq_true rfl, Nat.le_of_ble_eq_true rfl⟩ hK (fun _ _ h => by cases h) rfl hl rfl (Nat.le_of_ble_eq_true rfl) dX10_isPossible_17 ⟨Nat.le_of_ble_eq_true rfl, Nat.le_of_ble_eq_true rfl⟩ ?_
    refine tl_some ?_
    refine zb_if_ne (tgt := 27) hx hb dX10_isPossible_20 (by decide) (fun c_2 => ?_) (fun c_2 => ?_)
    · have cd_c_2 := of_decide_eq_true c_2
      refine lv_iconst (v := iI 0) hx hb dX10_isPossible_27 (by decide) ?_
      refine rw_V (As := [Value.int (iI 0)]) (rest := []) ⟨hx, hb, hml, hown, hts⟩ (c_X10_refused l g τ ma M 0 ⟨by decide, by decide⟩) gX10_isPossible_X10_refused cd_X10_refused rfl rfl ⟨rfl, rfl⟩ ⟨Nat.le_of_ble_eq_true rfl, Nat.le_of_ble_eq_true rfl⟩ hK hP hD hS [0] (rfl) (by decide) 0 rfl rfl rfl rfl hl rfl (Nat.le_of_ble_eq_true rfl) dX10_isPossible_28 ⟨Nat.le_of_ble_eq_true rfl, Nat.le_of_ble_eq_true rfl⟩ (fun v w h => by rw [h.2]; rfl) (fun v w1 H locs hZ hP hD hS => ?_)
      obtain ⟨rfl, rfl⟩ := hZ
      have hP : va_P g vwCl ([moO ma (updZ M 0 0), arC (ma 1) (τ 0) 291 (flR R)]) H := hP
      have hD : va_D A ([moO ma (updZ M 0 0), arC (ma 1) (τ 0) 291 (flR R)]) := hD
      refine tl_some ?_
      refine cv_i (y := iI 0) (congrArg iI (if_pos rfl)) ?_
      refine zi_if_eq (tgt := 36) hx hb ⟨by decide, by decide⟩ dX10_isPossible_31 (by decide) (fun c_3 => ?_) (fun c_3 => ?_)
      · skip
        obtain ⟨r1, rfl⟩ := Int.eq_ofNat_of_zero_le (show 0 ≤ z1 by omega)
        refine lv_aload_n hx hb dX10_isPossible_36 rfl (lv_at hl 0 rfl) ?_
        refine lv_iload_n hx hb dX10_isPossible_37 rfl (lv_at hl 1 rfl) ?_
        refine lv_iload_n hx hb dX10_isPossible_38 rfl (lv_at hl 2 rfl) ?_
        refine ro_V (As := [Value.int (iI (r1 : Int)), Value.int (iI y1)]) (rest := []) (v := some (Value.int (iI (zB (rCan R r1 y1))))) ⟨hx, hb, hml, hown, hts⟩ (c_X10_can l g τ ma (updZ M 0 0) R hI r1 (by omega) y1 ⟨by omega, by omega⟩) gX10_isPossible_X10_can cd_X10_can rfl rfl ⟨rfl, rfl⟩ ⟨Nat.le_of_ble_eq_true rfl, Nat.le_of_ble_eq_true rfl⟩ hK (cut_P (is := [0, 1]) hP rfl) 0 rfl rfl rfl rfl hl rfl (Nat.le_of_ble_eq_true rfl) dX10_isPossible_39 ⟨Nat.le_of_ble_eq_true rfl, Nat.le_of_ble_eq_true rfl⟩ ?_
        refine tl_some ?_
        exact rw_zret hx hb hr hlocks hP hS (⟨⟨by (refine Eq.symm ?_; unfold pPoss; (try simp only [Int.toNat_natCast]); repeat (first | rw [if_pos (by omega)] | rw [if_neg (by omega)])) <;> first | rfl | (exfalso; omega), (updZ M 0 0), by show 0 = _; (refine Eq.symm ?_; unfold pPoss; (try simp only [Int.toNat_natCast]); repeat (first | rw [if_pos (by omega)] | rw [if_neg (by omega)])) <;> first | rfl | (exfalso; omega), by show M 5 = M 5; first | rfl | omega, by show M 9 = M 9; first | rfl | omega, rfl⟩, by first | exact ⟨_, iI_b2 _⟩ | exact ⟨false, rfl⟩ | exact ⟨true, rfl⟩⟩) dX10_isPossible_42
      · exact absurd c_3 (by decide)
    · have cd_c_2 := of_decide_eq_false c_2
      refine lv_iconst (v := iI 2) hx hb dX10_isPossible_23 (by decide) ?_
      refine lv_goto (tgt := 28) hx hb dX10_isPossible_24 (by decide) ?_
      refine rw_V (As := [Value.int (iI 2)]) (rest := []) ⟨hx, hb, hml, hown, hts⟩ (c_X10_refused l g τ ma M 2 ⟨by decide, by decide⟩) gX10_isPossible_X10_refused cd_X10_refused rfl rfl ⟨rfl, rfl⟩ ⟨Nat.le_of_ble_eq_true rfl, Nat.le_of_ble_eq_true rfl⟩ hK hP hD hS [0] (rfl) (by decide) 0 rfl rfl rfl rfl hl rfl (Nat.le_of_ble_eq_true rfl) dX10_isPossible_28 ⟨Nat.le_of_ble_eq_true rfl, Nat.le_of_ble_eq_true rfl⟩ (fun v w h => by rw [h.2]; rfl) (fun v w1 H locs hZ hP hD hS => ?_)
      obtain ⟨rfl, rfl⟩ := hZ
      have hP : va_P g vwCl ([moO ma (updZ M 0 2), arC (ma 1) (τ 0) 291 (flR R)]) H := hP
      have hD : va_D A ([moO ma (updZ M 0 2), arC (ma 1) (τ 0) 291 (flR R)]) := hD
      refine tl_some ?_
      refine cv_i (y := iI 1) (congrArg iI (if_neg (by decide))) ?_
      refine zi_if_eq (tgt := 36) hx hb ⟨by decide, by decide⟩ dX10_isPossible_31 (by decide) (fun c_4 => ?_) (fun c_4 => ?_)
      · exact absurd c_4 (by decide)
      refine lv_iconst (v := iI 0) hx hb dX10_isPossible_34 (by decide) ?_
      exact rw_zret hx hb hr hlocks hP hS (⟨⟨by (refine Eq.symm ?_; unfold pPoss; (try simp only [Int.toNat_natCast]); repeat (first | rw [if_pos (by omega)] | rw [if_neg (by omega)])) <;> first | rfl | (exfalso; omega), (updZ M 0 2), by show 2 = _; (refine Eq.symm ?_; unfold pPoss; (try simp only [Int.toNat_natCast]); repeat (first | rw [if_pos (by omega)] | rw [if_neg (by omega)])) <;> first | rfl | (exfalso; omega), by show M 5 = M 5; first | rfl | omega, by show M 9 = M 9; first | rfl | omega, rfl⟩, by first | exact ⟨_, iI_b2 _⟩ | exact ⟨false, rfl⟩ | exact ⟨true, rfl⟩⟩) dX10_isPossible_35
  · have cd_c_1 := of_decide_eq_false c_1
    refine lv_iconst (v := iI 1) hx hb dX10_isPossible_12 (by decide) ?_
    refine lv_goto (tgt := 28) hx hb dX10_isPossible_13 (by decide) ?_
    refine rw_V (As := [Value.int (iI 1)]) (rest := []) ⟨hx, hb, hml, hown, hts⟩ (c_X10_refused l g τ ma M 1 ⟨by decide, by decide⟩) gX10_isPossible_X10_refused cd_X10_refused rfl rfl ⟨rfl, rfl⟩ ⟨Nat.le_of_ble_eq_true rfl, Nat.le_of_ble_eq_true rfl⟩ hK hP hD hS [0] (rfl) (by decide) 0 rfl rfl rfl rfl hl rfl (Nat.le_of_ble_eq_true rfl) dX10_isPossible_28 ⟨Nat.le_of_ble_eq_true rfl, Nat.le_of_ble_eq_true rfl⟩ (fun v w h => by rw [h.2]; rfl) (fun v w1 H locs hZ hP hD hS => ?_)
    obtain ⟨rfl, rfl⟩ := hZ
    have hP : va_P g vwCl ([moO ma (updZ M 0 1), arC (ma 1) (τ 0) 291 (flR R)]) H := hP
    have hD : va_D A ([moO ma (updZ M 0 1), arC (ma 1) (τ 0) 291 (flR R)]) := hD
    refine tl_some ?_
    refine cv_i (y := iI 1) (congrArg iI (if_neg (by decide))) ?_
    refine zi_if_eq (tgt := 36) hx hb ⟨by decide, by decide⟩ dX10_isPossible_31 (by decide) (fun c_5 => ?_) (fun c_5 => ?_)
    · exact absurd c_5 (by decide)
    refine lv_iconst (v := iI 0) hx hb dX10_isPossible_34 (by decide) ?_
    exact rw_zret hx hb hr hlocks hP hS (⟨⟨by (refine Eq.symm ?_; unfold pPoss; (try simp only [Int.toNat_natCast]); repeat (first | rw [if_pos (by omega)] | rw [if_neg (by omega)])) <;> first | rfl | (exfalso; omega), (updZ M 0 1), by show 1 = _; (refine Eq.symm ?_; unfold pPoss; (try simp only [Int.toNat_natCast]); repeat (first | rw [if_pos (by omega)] | rw [if_neg (by omega)])) <;> first | rfl | (exfalso; omega), by show M 5 = M 5; first | rfl | omega, by show M 9 = M 9; first | rfl | omega, rfl⟩, by first | exact ⟨_, iI_b2 _⟩ | exact ⟨false, rfl⟩ | exact ⟨true, rfl⟩⟩) dX10_isPossible_35

theorem cd_X10_charter : cd yX10_charter 2 := by decide +kernel
theorem in_X10_charter_X10 : ∀ w ∈ wsX100, w ∈ wsX10_charter := by decide +kernel
set_option maxHeartbeats 1000000 in
set_option maxRecDepth 100000 in
theorem c_X10_charter (l : Launch) (g : va_G) (τ : Nat → ClassId) (ma : Nat → Nat) (M : Nat → Int) (R : Nat → Nat → Int) (hI : SI R) (z1 : Int) (rz1 : -2147483648 ≤ z1 ∧ z1 < 2147483648) (w1 : Int) (rw1 : -2147483648 ≤ w1 ∧ w1 < 2147483648)  : Met l yX10_charter wsX10_charter { frames := 8, cells := 0, slots := 0, locals := 189 } (va_Pc [Value.ref (ma 0), Value.int (iI z1), Value.int (iI w1)] (rwW g τ ([moO ma M, arC (ma 1) (τ 0) 291 (flR R)]))) (rwQ g (fun v w => v = some (Value.int (iI (pChart R z1 w1).2)) ∧ ∃ M2 : Nat → Int, M2 0 = (pChart R z1 w1).1 ∧ M2 5 = M 5 ∧ M2 9 = M 9 ∧ w = [moO ma M2, arC (ma 1) (τ 0) 291 (flR R)]) (inW ([moO ma M, arC (ma 1) (τ 0) 291 (flR R)]))) 0 0 (inW ([moO ma M, arC (ma 1) (τ 0) 291 (flR R)])) := by
  have hB := hI.hB
  have hr0 := hI.r
  have hd0 := hI.d
  have hs0 := hI.s
  refine rwMet (cc := cX10_charter) (maxL := 3) (ret := (some .int)) (lv := [(0, Value.ref (ma 0)), (1, Value.int (iI z1)), (2, Value.int (iI w1))]) (by decide) rfl (Nat.le_of_ble_eq_true rfl) rfl ?_
  intro p e s m below meth c hx hb hr hml hts hown hlocks A H hP hD hS hK ls hl
  refine lv_aload_n hx hb dX10_charter_0 rfl (lv_at hl 0 rfl) ?_
  refine lv_iload_n hx hb dX10_charter_1 rfl (lv_at hl 1 rfl) ?_
  refine ro_S (As := [Value.int (iI z1)]) (rest := [Value.ref (ma 0)]) (v := some (Value.int (iI (zB (decide (0 ≤ z1 ∧ z1 ≤ 5)))))) ⟨hx, hb, hml, hown, hts⟩ (c_X10_isCharter l g τ z1 ⟨by omega, by omega⟩) gX10_charter_X10_isCharter cd_X10_isCharter rfl ⟨rfl, rfl⟩ ⟨Nat.le_of_ble_eq_true rfl, Nat.le_of_ble_eq_true rfl⟩ hK (fun _ _ h => by cases h) rfl hl rfl (Nat.le_of_ble_eq_true rfl) dX10_charter_2 ⟨Nat.le_of_ble_eq_true rfl, Nat.le_of_ble_eq_true rfl⟩ ?_
  refine tl_some ?_
  refine zb_if_ne (tgt := 12) hx hb dX10_charter_5 (by decide) (fun c_1 => ?_) (fun c_1 => ?_)
  · have cd_c_1 := of_decide_eq_true c_1
    refine lv_iload_n hx hb dX10_charter_12 rfl (lv_at hl 2 rfl) ?_
    refine lv_i2l (v := (iI w1).toInt64) hx hb dX10_charter_13 rfl ?_
    refine cv_l (y := iL w1) (i2l_iL ⟨by omega, by omega⟩) ?_
    refine lv_lconst (v := 0) hx hb dX10_charter_14 (by decide) ?_
    refine cv_l (y := iL 0) (by decide) ?_
    refine lv_ldc2 (v := 4) hx hb hown (hts _ (List.mem_of_getElem? (i := 1) rfl)) dX10_charter_15 ?_
    refine cv_l (y := iL 4) (by decide) ?_
    refine ro_S (As := [Value.long (iL w1), Value.long (iL 0), Value.long (iL 4)]) (rest := [Value.ref (ma 0)]) (v := some (Value.int (iI (zB (decide (0 ≤ w1 ∧ w1 ≤ 4)))))) ⟨hx, hb, hml, hown, hts⟩ (c_X10_in l g τ w1 0 4 ⟨by omega, by omega⟩ ⟨by omega, by omega⟩ ⟨by omega, by omega⟩) gX10_charter_X10_in cd_X10_in rfl ⟨rfl, rfl⟩ ⟨Nat.le_of_ble_eq_true rfl, Nat.le_of_ble_eq_true rfl⟩ hK (fun _ _ h => by cases h) rfl hl rfl (Nat.le_of_ble_eq_true rfl) dX10_charter_18 ⟨Nat.le_of_ble_eq_true rfl, Nat.le_of_ble_eq_true rfl⟩ ?_
    refine tl_some ?_
    refine zb_if_ne (tgt := 28) hx hb dX10_charter_21 (by decide) (fun c_2 => ?_) (fun c_2 => ?_)
    · have cd_c_2 := of_decide_eq_true c_2
      refine lv_iconst (v := iI 0) hx hb dX10_charter_28 (by decide) ?_
      refine rw_V (As := [Value.int (iI 0)]) (rest := []) ⟨hx, hb, hml, hown, hts⟩ (c_X10_refused l g τ ma M 0 ⟨by decide, by decide⟩) gX10_charter_X10_refused cd_X10_refused rfl rfl ⟨rfl, rfl⟩ ⟨Nat.le_of_ble_eq_true rfl, Nat.le_of_ble_eq_true rfl⟩ hK hP hD hS [0] (rfl) (by decide) 0 rfl rfl rfl rfl hl rfl (Nat.le_of_ble_eq_true rfl) dX10_charter_29 ⟨Nat.le_of_ble_eq_true rfl, Nat.le_of_ble_eq_true rfl⟩ (fun v w h => by rw [h.2]; rfl) (fun v w1 H locs hZ hP hD hS => ?_)
      obtain ⟨rfl, rfl⟩ := hZ
      have hP : va_P g vwCl ([moO ma (updZ M 0 0), arC (ma 1) (τ 0) 291 (flR R)]) H := hP
      have hD : va_D A ([moO ma (updZ M 0 0), arC (ma 1) (τ 0) 291 (flR R)]) := hD
      refine tl_some ?_
      refine cv_i (y := iI 0) (congrArg iI (if_pos rfl)) ?_
      refine zi_if_eq (tgt := 37) hx hb ⟨by decide, by decide⟩ dX10_charter_32 (by decide) (fun c_3 => ?_) (fun c_3 => ?_)
      · skip
        refine lv_iload_n hx hb dX10_charter_37 rfl (lv_at hl 2 rfl) ?_
        refine zi_if_ne (tgt := 52) hx hb ⟨by omega, by omega⟩ dX10_charter_38 (by decide) (fun c_4 => ?_) (fun c_4 => ?_)
        · have _ := c_4
          refine lv_iload_n hx hb dX10_charter_52 rfl (lv_at hl 2 rfl) ?_
          refine lv_iconst (v := iI 4) hx hb dX10_charter_53 (by decide) ?_
          refine zi_icmp_ne (tgt := 65) hx hb ⟨by omega, by omega⟩ ⟨by decide, by decide⟩ dX10_charter_54 (by decide) (fun c_5 => ?_) (fun c_5 => ?_)
          · have _ := c_5
            refine lv_aload_n hx hb dX10_charter_65 rfl (lv_at hl 0 rfl) ?_
            refine lv_aload_n hx hb dX10_charter_66 rfl (lv_at hl 0 rfl) ?_
            refine va_get (D := g) (ci := 10) (v := Value.ref (ma 1)) (C := RX10) (T := TX10) (N := 18) hx hb hts in_X10_charter_X10 hown hK.1 hP 0 (rfl) rfl 1 (by decide) (hts _ (List.mem_of_getElem? (i := 2) rfl) : (Cond.fieldLink RX10 7 "CordSealsModel" "now" "[I").before _ s = true) (fun _ h9 => h9) rfl dX10_charter_67 ?_
            refine lv_iload_n hx hb dX10_charter_70 rfl (lv_at hl 1 rfl) ?_
            refine lv_iconst (v := iI (-1)) hx hb dX10_charter_71 (by decide) ?_
            refine lv_iload_n hx hb dX10_charter_72 rfl (lv_at hl 2 rfl) ?_
            refine lv_iconst (v := iI 1) hx hb dX10_charter_73 (by decide) ?_
            refine zi_sub hx hb dX10_charter_74 ?_
            refine rw_V (As := [Value.ref (ma 1), Value.int (iI z1), Value.int (iI (-1)), Value.int (iI (w1 - 1))]) (rest := []) ⟨hx, hb, hml, hown, hts⟩ (c_X10_ofCharter l g τ ma (updZ M 0 0) (ma 1) R hI z1 ⟨by omega, by omega⟩ (-1) ⟨by omega, by omega⟩ (w1 - 1) ⟨by omega, by omega⟩) gX10_charter_X10_ofCharter cd_X10_ofCharter rfl rfl ⟨rfl, rfl⟩ ⟨Nat.le_of_ble_eq_true rfl, Nat.le_of_ble_eq_true rfl⟩ hK hP hD hS [0, 1] (rfl) (by decide) 0 rfl rfl rfl rfl hl rfl (Nat.le_of_ble_eq_true rfl) dX10_charter_75 ⟨Nat.le_of_ble_eq_true rfl, Nat.le_of_ble_eq_true rfl⟩ (fun v w h => by obtain ⟨-, M9, -, rfl⟩ := h; rfl) (fun v w1 H locs hZ hP hD hS => ?_)
            obtain ⟨rfl, M_6, hgM_6, rfl⟩ := hZ
            have hP : va_P g vwCl ([moO ma M_6, arC (ma 1) (τ 0) 291 (flR R)]) H := hP
            have hD : va_D A ([moO ma M_6, arC (ma 1) (τ 0) 291 (flR R)]) := hD
            have hfM_6_0 : M_6 0 = 0 := hgM_6 0 (by decide)
            have hfM_6_5 : M_6 5 = M 5 := hgM_6 5 (by decide)
            have hfM_6_9 : M_6 9 = M 9 := hgM_6 9 (by decide)
            have hfM_6_10 : M_6 10 = M 10 := hgM_6 10 (by decide)
            have hfM_6_11 : M_6 11 = M 11 := hgM_6 11 (by decide)
            have hfM_6_12 : M_6 12 = M 12 := hgM_6 12 (by decide)
            have := rCh_b hI z1 (-1) (w1 - 1)
            refine tl_some ?_
            exact rw_iret hx hb hr hlocks hP hS (⟨by (refine Eq.symm ?_; unfold pChart; (try simp only [Int.toNat_natCast]); repeat (first | rw [if_pos (by omega)] | rw [if_neg (by omega)])) <;> first | rfl | (exfalso; omega), M_6, by show M_6 0 = _; rw [show M_6 0 = 0 from by omega]; (refine Eq.symm ?_; unfold pChart; (try simp only [Int.toNat_natCast]); repeat (first | rw [if_pos (by omega)] | rw [if_neg (by omega)])) <;> first | rfl | (exfalso; omega), by show M_6 5 = M 5; first | rfl | omega, by show M_6 9 = M 9; first | rfl | omega, rfl⟩) dX10_charter_78
          · have _ := c_5
            refine lv_aload_n hx hb dX10_charter_57 rfl (lv_at hl 0 rfl) ?_
            refine lv_iload_n hx hb dX10_charter_58 rfl (lv_at hl 1 rfl) ?_
            refine rw_V (As := [Value.int (iI z1)]) (rest := []) ⟨hx, hb, hml, hown, hts⟩ (c_X10_fakesOn l g τ ma (updZ M 0 0) R hI z1 ⟨by omega, by omega⟩) gX10_charter_X10_fakesOn cd_X10_fakesOn rfl rfl ⟨rfl, rfl⟩ ⟨Nat.le_of_ble_eq_true rfl, Nat.le_of_ble_eq_true rfl⟩ hK hP hD hS [0, 1] (rfl) (by decide) 0 rfl rfl rfl rfl hl rfl (Nat.le_of_ble_eq_true rfl) dX10_charter_59 ⟨Nat.le_of_ble_eq_true rfl, Nat.le_of_ble_eq_true rfl⟩ (fun v w h => by obtain ⟨-, M9, -, rfl⟩ := h; rfl) (fun v w1 H locs hZ hP hD hS => ?_)
            obtain ⟨rfl, M_7, hgM_7, rfl⟩ := hZ
            have hP : va_P g vwCl ([moO ma M_7, arC (ma 1) (τ 0) 291 (flR R)]) H := hP
            have hD : va_D A ([moO ma M_7, arC (ma 1) (τ 0) 291 (flR R)]) := hD
            have hfM_7_0 : M_7 0 = 0 := hgM_7 0 (by decide)
            have hfM_7_5 : M_7 5 = M 5 := hgM_7 5 (by decide)
            have hfM_7_9 : M_7 9 = M 9 := hgM_7 9 (by decide)
            have hfM_7_10 : M_7 10 = M 10 := hgM_7 10 (by decide)
            have hfM_7_11 : M_7 11 = M 11 := hgM_7 11 (by decide)
            have hfM_7_12 : M_7 12 = M 12 := hgM_7 12 (by decide)
            have := cnt_le (fun s => decide (R 16 s = z1 ∧ 0 < rFk R s)) (R 10 0).toNat
            have hfo : rFo R z1 (R 10 0).toNat = cnt (fun s => decide (R 16 s = z1 ∧ 0 < rFk R s)) (R 10 0).toNat := rfl
            refine tl_some ?_
            refine lv_goto (tgt := 78) hx hb dX10_charter_62 (by decide) ?_
            exact rw_iret hx hb hr hlocks hP hS (⟨by (refine Eq.symm ?_; unfold pChart; (try simp only [Int.toNat_natCast]); repeat (first | rw [if_pos (by omega)] | rw [if_neg (by omega)])) <;> first | rfl | (exfalso; omega), M_7, by show M_7 0 = _; rw [show M_7 0 = 0 from by omega]; (refine Eq.symm ?_; unfold pChart; (try simp only [Int.toNat_natCast]); repeat (first | rw [if_pos (by omega)] | rw [if_neg (by omega)])) <;> first | rfl | (exfalso; omega), by show M_7 5 = M 5; first | rfl | omega, by show M_7 9 = M 9; first | rfl | omega, rfl⟩) dX10_charter_78
        · have _ := c_4
          refine lv_aload_n hx hb dX10_charter_41 rfl (lv_at hl 0 rfl) ?_
          refine va_get (D := g) (ci := 10) (v := Value.ref (ma 1)) (C := RX10) (T := TX10) (N := 18) hx hb hts in_X10_charter_X10 hown hK.1 hP 0 (rfl) rfl 1 (by decide) (hts _ (List.mem_of_getElem? (i := 2) rfl) : (Cond.fieldLink RX10 7 "CordSealsModel" "now" "[I").before _ s = true) (fun _ h9 => h9) rfl dX10_charter_42 ?_
          refine lv_iload_n hx hb dX10_charter_45 rfl (lv_at hl 1 rfl) ?_
          refine ro_S (As := [Value.ref (ma 1), Value.int (iI z1)]) (rest := []) (v := some (Value.int (iI (cnt (fun s => decide (R 16 s = z1)) (R 10 0).toNat)))) ⟨hx, hb, hml, hown, hts⟩ (c_X10_onCharter l g τ (ma 1) R hI z1 ⟨by omega, by omega⟩) gX10_charter_X10_onCharter cd_X10_onCharter rfl ⟨rfl, rfl⟩ ⟨Nat.le_of_ble_eq_true rfl, Nat.le_of_ble_eq_true rfl⟩ hK (cut_P (is := [1]) hP rfl) rfl hl rfl (Nat.le_of_ble_eq_true rfl) dX10_charter_46 ⟨Nat.le_of_ble_eq_true rfl, Nat.le_of_ble_eq_true rfl⟩ ?_
          refine tl_some ?_
          have hcle := cnt_le (fun s => decide (R 16 s = z1)) (R 10 0).toNat
          refine lv_goto (tgt := 78) hx hb dX10_charter_49 (by decide) ?_
          exact rw_iret hx hb hr hlocks hP hS (⟨by (refine Eq.symm ?_; unfold pChart; (try simp only [Int.toNat_natCast]); repeat (first | rw [if_pos (by omega)] | rw [if_neg (by omega)])) <;> first | rfl | (exfalso; omega), (updZ M 0 0), by show 0 = _; (refine Eq.symm ?_; unfold pChart; (try simp only [Int.toNat_natCast]); repeat (first | rw [if_pos (by omega)] | rw [if_neg (by omega)])) <;> first | rfl | (exfalso; omega), by show M 5 = M 5; first | rfl | omega, by show M 9 = M 9; first | rfl | omega, rfl⟩) dX10_charter_78
      · exact absurd c_3 (by decide)
    · have cd_c_2 := of_decide_eq_false c_2
      refine lv_iconst (v := iI 2) hx hb dX10_charter_24 (by decide) ?_
      refine lv_goto (tgt := 29) hx hb dX10_charter_25 (by decide) ?_
      refine rw_V (As := [Value.int (iI 2)]) (rest := []) ⟨hx, hb, hml, hown, hts⟩ (c_X10_refused l g τ ma M 2 ⟨by decide, by decide⟩) gX10_charter_X10_refused cd_X10_refused rfl rfl ⟨rfl, rfl⟩ ⟨Nat.le_of_ble_eq_true rfl, Nat.le_of_ble_eq_true rfl⟩ hK hP hD hS [0] (rfl) (by decide) 0 rfl rfl rfl rfl hl rfl (Nat.le_of_ble_eq_true rfl) dX10_charter_29 ⟨Nat.le_of_ble_eq_true rfl, Nat.le_of_ble_eq_true rfl⟩ (fun v w h => by rw [h.2]; rfl) (fun v w1 H locs hZ hP hD hS => ?_)
      obtain ⟨rfl, rfl⟩ := hZ
      have hP : va_P g vwCl ([moO ma (updZ M 0 2), arC (ma 1) (τ 0) 291 (flR R)]) H := hP
      have hD : va_D A ([moO ma (updZ M 0 2), arC (ma 1) (τ 0) 291 (flR R)]) := hD
      refine tl_some ?_
      refine cv_i (y := iI 1) (congrArg iI (if_neg (by decide))) ?_
      refine zi_if_eq (tgt := 37) hx hb ⟨by decide, by decide⟩ dX10_charter_32 (by decide) (fun c_8 => ?_) (fun c_8 => ?_)
      · exact absurd c_8 (by decide)
      refine lv_iconst (v := iI 0) hx hb dX10_charter_35 (by decide) ?_
      exact rw_iret hx hb hr hlocks hP hS (⟨by (refine Eq.symm ?_; unfold pChart; (try simp only [Int.toNat_natCast]); repeat (first | rw [if_pos (by omega)] | rw [if_neg (by omega)])) <;> first | rfl | (exfalso; omega), (updZ M 0 2), by show 2 = _; (refine Eq.symm ?_; unfold pChart; (try simp only [Int.toNat_natCast]); repeat (first | rw [if_pos (by omega)] | rw [if_neg (by omega)])) <;> first | rfl | (exfalso; omega), by show M 5 = M 5; first | rfl | omega, by show M 9 = M 9; first | rfl | omega, rfl⟩) dX10_charter_36
  · have cd_c_1 := of_decide_eq_false c_1
    refine lv_iconst (v := iI 1) hx hb dX10_charter_8 (by decide) ?_
    refine lv_goto (tgt := 29) hx hb dX10_charter_9 (by decide) ?_
    refine rw_V (As := [Value.int (iI 1)]) (rest := []) ⟨hx, hb, hml, hown, hts⟩ (c_X10_refused l g τ ma M 1 ⟨by decide, by decide⟩) gX10_charter_X10_refused cd_X10_refused rfl rfl ⟨rfl, rfl⟩ ⟨Nat.le_of_ble_eq_true rfl, Nat.le_of_ble_eq_true rfl⟩ hK hP hD hS [0] (rfl) (by decide) 0 rfl rfl rfl rfl hl rfl (Nat.le_of_ble_eq_true rfl) dX10_charter_29 ⟨Nat.le_of_ble_eq_true rfl, Nat.le_of_ble_eq_true rfl⟩ (fun v w h => by rw [h.2]; rfl) (fun v w1 H locs hZ hP hD hS => ?_)
    obtain ⟨rfl, rfl⟩ := hZ
    have hP : va_P g vwCl ([moO ma (updZ M 0 1), arC (ma 1) (τ 0) 291 (flR R)]) H := hP
    have hD : va_D A ([moO ma (updZ M 0 1), arC (ma 1) (τ 0) 291 (flR R)]) := hD
    refine tl_some ?_
    refine cv_i (y := iI 1) (congrArg iI (if_neg (by decide))) ?_
    refine zi_if_eq (tgt := 37) hx hb ⟨by decide, by decide⟩ dX10_charter_32 (by decide) (fun c_9 => ?_) (fun c_9 => ?_)
    · exact absurd c_9 (by decide)
    refine lv_iconst (v := iI 0) hx hb dX10_charter_35 (by decide) ?_
    exact rw_iret hx hb hr hlocks hP hS (⟨by (refine Eq.symm ?_; unfold pChart; (try simp only [Int.toNat_natCast]); repeat (first | rw [if_pos (by omega)] | rw [if_neg (by omega)])) <;> first | rfl | (exfalso; omega), (updZ M 0 1), by show 1 = _; (refine Eq.symm ?_; unfold pChart; (try simp only [Int.toNat_natCast]); repeat (first | rw [if_pos (by omega)] | rw [if_neg (by omega)])) <;> first | rfl | (exfalso; omega), by show M 5 = M 5; first | rfl | omega, by show M 9 = M 9; first | rfl | omega, rfl⟩) dX10_charter_36

theorem cd_X10_onShelf : cd yX10_onShelf 2 := by decide +kernel
theorem in_X10_onShelf_X10 : ∀ w ∈ wsX100, w ∈ wsX10_onShelf := by decide +kernel
set_option maxHeartbeats 1000000 in
set_option maxRecDepth 100000 in
theorem c_X10_onShelf (l : Launch) (g : va_G) (τ : Nat → ClassId) (ma : Nat → Nat) (M : Nat → Int) (R : Nat → Nat → Int) (hI : SI R) (z1 : Int) (rz1 : -2147483648 ≤ z1 ∧ z1 < 2147483648) (w1 : Int) (rw1 : -2147483648 ≤ w1 ∧ w1 < 2147483648)  : Met l yX10_onShelf wsX10_onShelf { frames := 2, cells := 0, slots := 0, locals := 45 } (va_Pc [Value.ref (ma 0), Value.int (iI z1), Value.int (iI w1)] (rwW g τ ([moO ma M, arC (ma 1) (τ 0) 291 (flR R)]))) (rwQ g (fun v w => v = some (Value.int (iI (pShelf R z1 w1).2)) ∧ ∃ M2 : Nat → Int, M2 0 = (pShelf R z1 w1).1 ∧ M2 5 = M 5 ∧ M2 9 = M 9 ∧ w = [moO ma M2, arC (ma 1) (τ 0) 291 (flR R)]) (inW ([moO ma M, arC (ma 1) (τ 0) 291 (flR R)]))) 0 0 (inW ([moO ma M, arC (ma 1) (τ 0) 291 (flR R)])) := by
  have hB := hI.hB
  have hr0 := hI.r
  have hd0 := hI.d
  have hs0 := hI.s
  refine rwMet (cc := cX10_onShelf) (maxL := 3) (ret := (some .int)) (lv := [(0, Value.ref (ma 0)), (1, Value.int (iI z1)), (2, Value.int (iI w1))]) (by decide) rfl (Nat.le_of_ble_eq_true rfl) rfl ?_
  intro p e s m below meth c hx hb hr hml hts hown hlocks A H hP hD hS hK ls hl
  refine lv_aload_n hx hb dX10_onShelf_0 rfl (lv_at hl 0 rfl) ?_
  refine lv_iload_n hx hb dX10_onShelf_1 rfl (lv_at hl 1 rfl) ?_
  refine ro_S (As := [Value.int (iI z1)]) (rest := [Value.ref (ma 0)]) (v := some (Value.int (iI (zB (decide (0 ≤ z1 ∧ z1 ≤ 5)))))) ⟨hx, hb, hml, hown, hts⟩ (c_X10_isShelf l g τ z1 ⟨by omega, by omega⟩) gX10_onShelf_X10_isShelf cd_X10_isShelf rfl ⟨rfl, rfl⟩ ⟨Nat.le_of_ble_eq_true rfl, Nat.le_of_ble_eq_true rfl⟩ hK (fun _ _ h => by cases h) rfl hl rfl (Nat.le_of_ble_eq_true rfl) dX10_onShelf_2 ⟨Nat.le_of_ble_eq_true rfl, Nat.le_of_ble_eq_true rfl⟩ ?_
  refine tl_some ?_
  refine zb_if_ne (tgt := 12) hx hb dX10_onShelf_5 (by decide) (fun c_1 => ?_) (fun c_1 => ?_)
  · have cd_c_1 := of_decide_eq_true c_1
    refine lv_iload_n hx hb dX10_onShelf_12 rfl (lv_at hl 2 rfl) ?_
    refine zi_if_ge (tgt := 20) hx hb ⟨by omega, by omega⟩ dX10_onShelf_13 (by decide) (fun c_2 => ?_) (fun c_2 => ?_)
    · have _ := c_2
      refine lv_iconst (v := iI 0) hx hb dX10_onShelf_20 (by decide) ?_
      refine rw_V (As := [Value.int (iI 0)]) (rest := []) ⟨hx, hb, hml, hown, hts⟩ (c_X10_refused l g τ ma M 0 ⟨by decide, by decide⟩) gX10_onShelf_X10_refused cd_X10_refused rfl rfl ⟨rfl, rfl⟩ ⟨Nat.le_of_ble_eq_true rfl, Nat.le_of_ble_eq_true rfl⟩ hK hP hD hS [0] (rfl) (by decide) 0 rfl rfl rfl rfl hl rfl (Nat.le_of_ble_eq_true rfl) dX10_onShelf_21 ⟨Nat.le_of_ble_eq_true rfl, Nat.le_of_ble_eq_true rfl⟩ (fun v w h => by rw [h.2]; rfl) (fun v w1 H locs hZ hP hD hS => ?_)
      obtain ⟨rfl, rfl⟩ := hZ
      have hP : va_P g vwCl ([moO ma (updZ M 0 0), arC (ma 1) (τ 0) 291 (flR R)]) H := hP
      have hD : va_D A ([moO ma (updZ M 0 0), arC (ma 1) (τ 0) 291 (flR R)]) := hD
      refine tl_some ?_
      refine cv_i (y := iI 0) (congrArg iI (if_pos rfl)) ?_
      refine zi_if_eq (tgt := 29) hx hb ⟨by decide, by decide⟩ dX10_onShelf_24 (by decide) (fun c_3 => ?_) (fun c_3 => ?_)
      · skip
        obtain ⟨r1, rfl⟩ := Int.eq_ofNat_of_zero_le (show 0 ≤ z1 by omega)
        obtain ⟨k1, rfl⟩ := Int.eq_ofNat_of_zero_le (show 0 ≤ w1 by omega)
        have hN := hI.hN r1 (by omega)
        refine lv_iload_n hx hb dX10_onShelf_29 rfl (lv_at hl 2 rfl) ?_
        refine lv_aload_n hx hb dX10_onShelf_30 rfl (lv_at hl 0 rfl) ?_
        refine va_get (D := g) (ci := 10) (v := Value.ref (ma 1)) (C := RX10) (T := TX10) (N := 18) hx hb hts in_X10_onShelf_X10 hown hK.1 hP 0 (rfl) rfl 1 (by decide) (hts _ (List.mem_of_getElem? (i := 1) rfl) : (Cond.fieldLink RX10 7 "CordSealsModel" "now" "[I").before _ s = true) (fun _ h9 => h9) rfl dX10_onShelf_31 ?_
        refine lv_sipush (v := iI 249) hx hb dX10_onShelf_34 (by decide) ?_
        refine lv_iload_n hx hb dX10_onShelf_37 rfl (lv_at hl 1 rfl) ?_
        refine zi_add hx hb dX10_onShelf_38 ?_
        refine zf_ald hx hb hK hP 1 (f := flR R) rfl (249 + r1) (by omega) (by omega) (by decide) (z := R 18 r1) (fl_18 (i := r1) (by omega) (by omega)) dX10_onShelf_39 ?_
        have hb_4 := hB 18 r1
        refine zi_icmp_ge (tgt := 61) hx hb ⟨by omega, by omega⟩ ⟨by omega, by omega⟩ dX10_onShelf_40 (by decide) (fun c_5 => ?_) (fun c_5 => ?_)
        · have _ := c_5
          refine lv_iconst (v := iI (-1)) hx hb dX10_onShelf_61 (by decide) ?_
          exact rw_iret hx hb hr hlocks hP hS (⟨by (refine Eq.symm ?_; unfold pShelf; (try simp only [Int.toNat_natCast]); repeat (first | rw [if_pos (by omega)] | rw [if_neg (by omega)])) <;> first | rfl | (exfalso; omega), (updZ M 0 0), by show 0 = _; (refine Eq.symm ?_; unfold pShelf; (try simp only [Int.toNat_natCast]); repeat (first | rw [if_pos (by omega)] | rw [if_neg (by omega)])) <;> first | rfl | (exfalso; omega), by show M 5 = M 5; first | rfl | omega, by show M 9 = M 9; first | rfl | omega, rfl⟩) dX10_onShelf_62
        · have _ := c_5
          refine lv_aload_n hx hb dX10_onShelf_43 rfl (lv_at hl 0 rfl) ?_
          refine va_get (D := g) (ci := 10) (v := Value.ref (ma 1)) (C := RX10) (T := TX10) (N := 18) hx hb hts in_X10_onShelf_X10 hown hK.1 hP 0 (rfl) rfl 1 (by decide) (hts _ (List.mem_of_getElem? (i := 1) rfl) : (Cond.fieldLink RX10 7 "CordSealsModel" "now" "[I").before _ s = true) (fun _ h9 => h9) rfl dX10_onShelf_44 ?_
          refine lv_sipush (v := iI 255) hx hb dX10_onShelf_47 (by decide) ?_
          refine lv_bipush (v := iI 6) hx hb dX10_onShelf_50 (by decide) ?_
          refine lv_iload_n hx hb dX10_onShelf_52 rfl (lv_at hl 1 rfl) ?_
          refine zi_mul hx hb dX10_onShelf_53 ?_
          refine zi_add hx hb dX10_onShelf_54 ?_
          refine lv_iload_n hx hb dX10_onShelf_55 rfl (lv_at hl 2 rfl) ?_
          refine zi_add hx hb dX10_onShelf_56 ?_
          refine zf_ald hx hb hK hP 1 (f := flR R) rfl ((255 + (6 * r1)) + k1) (by omega) (by omega) (by decide) (z := R 19 (r1 * 6 + k1)) (fl_19 (i := r1 * 6 + k1) (by omega) (by omega)) dX10_onShelf_57 ?_
          have hb_6 := hB 19 (r1 * 6 + k1)
          refine lv_goto (tgt := 62) hx hb dX10_onShelf_58 (by decide) ?_
          exact rw_iret hx hb hr hlocks hP hS (⟨by (refine Eq.symm ?_; unfold pShelf; (try simp only [Int.toNat_natCast]); repeat (first | rw [if_pos (by omega)] | rw [if_neg (by omega)])) <;> first | rfl | (exfalso; omega), (updZ M 0 0), by show 0 = _; (refine Eq.symm ?_; unfold pShelf; (try simp only [Int.toNat_natCast]); repeat (first | rw [if_pos (by omega)] | rw [if_neg (by omega)])) <;> first | rfl | (exfalso; omega), by show M 5 = M 5; first | rfl | omega, by show M 9 = M 9; first | rfl | omega, rfl⟩) dX10_onShelf_62
      · exact absurd c_3 (by decide)
    · have _ := c_2
      refine lv_iconst (v := iI 2) hx hb dX10_onShelf_16 (by decide) ?_
      refine lv_goto (tgt := 21) hx hb dX10_onShelf_17 (by decide) ?_
      refine rw_V (As := [Value.int (iI 2)]) (rest := []) ⟨hx, hb, hml, hown, hts⟩ (c_X10_refused l g τ ma M 2 ⟨by decide, by decide⟩) gX10_onShelf_X10_refused cd_X10_refused rfl rfl ⟨rfl, rfl⟩ ⟨Nat.le_of_ble_eq_true rfl, Nat.le_of_ble_eq_true rfl⟩ hK hP hD hS [0] (rfl) (by decide) 0 rfl rfl rfl rfl hl rfl (Nat.le_of_ble_eq_true rfl) dX10_onShelf_21 ⟨Nat.le_of_ble_eq_true rfl, Nat.le_of_ble_eq_true rfl⟩ (fun v w h => by rw [h.2]; rfl) (fun v w1 H locs hZ hP hD hS => ?_)
      obtain ⟨rfl, rfl⟩ := hZ
      have hP : va_P g vwCl ([moO ma (updZ M 0 2), arC (ma 1) (τ 0) 291 (flR R)]) H := hP
      have hD : va_D A ([moO ma (updZ M 0 2), arC (ma 1) (τ 0) 291 (flR R)]) := hD
      refine tl_some ?_
      refine cv_i (y := iI 1) (congrArg iI (if_neg (by decide))) ?_
      refine zi_if_eq (tgt := 29) hx hb ⟨by decide, by decide⟩ dX10_onShelf_24 (by decide) (fun c_7 => ?_) (fun c_7 => ?_)
      · exact absurd c_7 (by decide)
      refine lv_iconst (v := iI 0) hx hb dX10_onShelf_27 (by decide) ?_
      exact rw_iret hx hb hr hlocks hP hS (⟨by (refine Eq.symm ?_; unfold pShelf; (try simp only [Int.toNat_natCast]); repeat (first | rw [if_pos (by omega)] | rw [if_neg (by omega)])) <;> first | rfl | (exfalso; omega), (updZ M 0 2), by show 2 = _; (refine Eq.symm ?_; unfold pShelf; (try simp only [Int.toNat_natCast]); repeat (first | rw [if_pos (by omega)] | rw [if_neg (by omega)])) <;> first | rfl | (exfalso; omega), by show M 5 = M 5; first | rfl | omega, by show M 9 = M 9; first | rfl | omega, rfl⟩) dX10_onShelf_28
  · have cd_c_1 := of_decide_eq_false c_1
    refine lv_iconst (v := iI 1) hx hb dX10_onShelf_8 (by decide) ?_
    refine lv_goto (tgt := 21) hx hb dX10_onShelf_9 (by decide) ?_
    refine rw_V (As := [Value.int (iI 1)]) (rest := []) ⟨hx, hb, hml, hown, hts⟩ (c_X10_refused l g τ ma M 1 ⟨by decide, by decide⟩) gX10_onShelf_X10_refused cd_X10_refused rfl rfl ⟨rfl, rfl⟩ ⟨Nat.le_of_ble_eq_true rfl, Nat.le_of_ble_eq_true rfl⟩ hK hP hD hS [0] (rfl) (by decide) 0 rfl rfl rfl rfl hl rfl (Nat.le_of_ble_eq_true rfl) dX10_onShelf_21 ⟨Nat.le_of_ble_eq_true rfl, Nat.le_of_ble_eq_true rfl⟩ (fun v w h => by rw [h.2]; rfl) (fun v w1 H locs hZ hP hD hS => ?_)
    obtain ⟨rfl, rfl⟩ := hZ
    have hP : va_P g vwCl ([moO ma (updZ M 0 1), arC (ma 1) (τ 0) 291 (flR R)]) H := hP
    have hD : va_D A ([moO ma (updZ M 0 1), arC (ma 1) (τ 0) 291 (flR R)]) := hD
    refine tl_some ?_
    refine cv_i (y := iI 1) (congrArg iI (if_neg (by decide))) ?_
    refine zi_if_eq (tgt := 29) hx hb ⟨by decide, by decide⟩ dX10_onShelf_24 (by decide) (fun c_8 => ?_) (fun c_8 => ?_)
    · exact absurd c_8 (by decide)
    refine lv_iconst (v := iI 0) hx hb dX10_onShelf_27 (by decide) ?_
    exact rw_iret hx hb hr hlocks hP hS (⟨by (refine Eq.symm ?_; unfold pShelf; (try simp only [Int.toNat_natCast]); repeat (first | rw [if_pos (by omega)] | rw [if_neg (by omega)])) <;> first | rfl | (exfalso; omega), (updZ M 0 1), by show 1 = _; (refine Eq.symm ?_; unfold pShelf; (try simp only [Int.toNat_natCast]); repeat (first | rw [if_pos (by omega)] | rw [if_neg (by omega)])) <;> first | rfl | (exfalso; omega), by show M 5 = M 5; first | rfl | omega, by show M 9 = M 9; first | rfl | omega, rfl⟩) dX10_onShelf_28

theorem cd_X10_older : cd yX10_older 2 := by decide +kernel
theorem in_X10_older_X10 : ∀ w ∈ wsX100, w ∈ wsX10_older := by decide +kernel
set_option maxHeartbeats 4000000 in
set_option maxRecDepth 100000 in
theorem c_X10_older (l : Launch) (g : va_G) (τ : Nat → ClassId) (ma : Nat → Nat) (M : Nat → Int) (R : Nat → Nat → Int) (hI : SI R) (z1 : Int) (rz1 : -2147483648 ≤ z1 ∧ z1 < 2147483648) (w1 : Int) (rw1 : -2147483648 ≤ w1 ∧ w1 < 2147483648)  : Met l yX10_older wsX10_older { frames := 3, cells := 0, slots := 0, locals := 74 } (va_Pc [Value.ref (ma 0), Value.int (iI z1), Value.int (iI w1)] (rwW g τ ([moO ma M, arC (ma 1) (τ 0) 291 (flR R)]))) (rwQ g (fun v w => v = some (Value.int (iI (pOlder R z1 w1).2)) ∧ ∃ M2 : Nat → Int, M2 0 = (pOlder R z1 w1).1 ∧ M2 5 = M 5 ∧ M2 9 = M 9 ∧ w = [moO ma M2, arC (ma 1) (τ 0) 291 (flR R)]) (inW ([moO ma M, arC (ma 1) (τ 0) 291 (flR R)]))) 0 0 (inW ([moO ma M, arC (ma 1) (τ 0) 291 (flR R)])) := by
  have hB := hI.hB
  have hr0 := hI.r
  have hd0 := hI.d
  have hs0 := hI.s
  refine rwMet (cc := cX10_older) (maxL := 3) (ret := (some .int)) (lv := [(0, Value.ref (ma 0)), (1, Value.int (iI z1)), (2, Value.int (iI w1))]) (by decide) rfl (Nat.le_of_ble_eq_true rfl) rfl ?_
  intro p e s m below meth c hx hb hr hml hts hown hlocks A H hP hD hS hK ls hl
  refine lv_aload_n hx hb dX10_older_0 rfl (lv_at hl 0 rfl) ?_
  refine lv_aload_n hx hb dX10_older_1 rfl (lv_at hl 0 rfl) ?_
  refine va_get (D := g) (ci := 10) (v := Value.ref (ma 1)) (C := RX10) (T := TX10) (N := 18) hx hb hts in_X10_older_X10 hown hK.1 hP 0 (rfl) rfl 1 (by decide) (hts _ (List.mem_of_getElem? (i := 1) rfl) : (Cond.fieldLink RX10 7 "CordSealsModel" "now" "[I").before _ s = true) (fun _ h9 => h9) rfl dX10_older_2 ?_
  refine lv_iload_n hx hb dX10_older_5 rfl (lv_at hl 1 rfl) ?_
  refine ro_S (As := [Value.ref (ma 1), Value.int (iI z1)]) (rest := [Value.ref (ma 0)]) (v := some (Value.int (iI (zB (decide (0 ≤ z1 ∧ z1 ≤ R 10 0 - 1)))))) ⟨hx, hb, hml, hown, hts⟩ (c_X10_hasSeal l g τ (ma 1) R hI z1 ⟨by omega, by omega⟩) gX10_older_X10_hasSeal cd_X10_hasSeal rfl ⟨rfl, rfl⟩ ⟨Nat.le_of_ble_eq_true rfl, Nat.le_of_ble_eq_true rfl⟩ hK (cut_P (is := [1]) hP rfl) rfl hl rfl (Nat.le_of_ble_eq_true rfl) dX10_older_6 ⟨Nat.le_of_ble_eq_true rfl, Nat.le_of_ble_eq_true rfl⟩ ?_
  refine tl_some ?_
  refine zb_if_eq (tgt := 27) hx hb dX10_older_9 (by decide) (fun c_1 => ?_) (fun c_1 => ?_)
  · have cd_c_1 := of_decide_eq_false c_1
    refine lv_iconst (v := iI 1) hx hb dX10_older_27 (by decide) ?_
    refine rw_V (As := [Value.int (iI 1)]) (rest := []) ⟨hx, hb, hml, hown, hts⟩ (c_X10_refused l g τ ma M 1 ⟨by decide, by decide⟩) gX10_older_X10_refused cd_X10_refused rfl rfl ⟨rfl, rfl⟩ ⟨Nat.le_of_ble_eq_true rfl, Nat.le_of_ble_eq_true rfl⟩ hK hP hD hS [0] (rfl) (by decide) 0 rfl rfl rfl rfl hl rfl (Nat.le_of_ble_eq_true rfl) dX10_older_28 ⟨Nat.le_of_ble_eq_true rfl, Nat.le_of_ble_eq_true rfl⟩ (fun v w h => by rw [h.2]; rfl) (fun v w1 H locs hZ hP hD hS => ?_)
    obtain ⟨rfl, rfl⟩ := hZ
    have hP : va_P g vwCl ([moO ma (updZ M 0 1), arC (ma 1) (τ 0) 291 (flR R)]) H := hP
    have hD : va_D A ([moO ma (updZ M 0 1), arC (ma 1) (τ 0) 291 (flR R)]) := hD
    refine tl_some ?_
    refine cv_i (y := iI 1) (congrArg iI (if_neg (by decide))) ?_
    refine zi_if_eq (tgt := 36) hx hb ⟨by decide, by decide⟩ dX10_older_31 (by decide) (fun c_2 => ?_) (fun c_2 => ?_)
    · exact absurd c_2 (by decide)
    refine lv_iconst (v := iI 0) hx hb dX10_older_34 (by decide) ?_
    exact rw_iret hx hb hr hlocks hP hS (⟨by (refine Eq.symm ?_; unfold pOlder; (try simp only [Int.toNat_natCast]); repeat (first | rw [if_pos (by omega)] | rw [if_neg (by omega)])) <;> first | rfl | (exfalso; omega), (updZ M 0 1), by show 1 = _; (refine Eq.symm ?_; unfold pOlder; (try simp only [Int.toNat_natCast]); repeat (first | rw [if_pos (by omega)] | rw [if_neg (by omega)])) <;> first | rfl | (exfalso; omega), by show M 5 = M 5; first | rfl | omega, by show M 9 = M 9; first | rfl | omega, rfl⟩) dX10_older_35
  · have cd_c_1 := of_decide_eq_true c_1
    refine lv_aload_n hx hb dX10_older_12 rfl (lv_at hl 0 rfl) ?_
    refine va_get (D := g) (ci := 10) (v := Value.ref (ma 1)) (C := RX10) (T := TX10) (N := 18) hx hb hts in_X10_older_X10 hown hK.1 hP 0 (rfl) rfl 1 (by decide) (hts _ (List.mem_of_getElem? (i := 1) rfl) : (Cond.fieldLink RX10 7 "CordSealsModel" "now" "[I").before _ s = true) (fun _ h9 => h9) rfl dX10_older_13 ?_
    refine lv_iload_n hx hb dX10_older_16 rfl (lv_at hl 2 rfl) ?_
    refine ro_S (As := [Value.ref (ma 1), Value.int (iI w1)]) (rest := [Value.ref (ma 0)]) (v := some (Value.int (iI (zB (decide (0 ≤ w1 ∧ w1 ≤ R 10 0 - 1)))))) ⟨hx, hb, hml, hown, hts⟩ (c_X10_hasSeal l g τ (ma 1) R hI w1 ⟨by omega, by omega⟩) gX10_older_X10_hasSeal cd_X10_hasSeal rfl ⟨rfl, rfl⟩ ⟨Nat.le_of_ble_eq_true rfl, Nat.le_of_ble_eq_true rfl⟩ hK (cut_P (is := [1]) hP rfl) rfl hl rfl (Nat.le_of_ble_eq_true rfl) dX10_older_17 ⟨Nat.le_of_ble_eq_true rfl, Nat.le_of_ble_eq_true rfl⟩ ?_
    refine tl_some ?_
    refine zb_if_eq (tgt := 27) hx hb dX10_older_20 (by decide) (fun c_3 => ?_) (fun c_3 => ?_)
    · have cd_c_3 := of_decide_eq_false c_3
      refine lv_iconst (v := iI 1) hx hb dX10_older_27 (by decide) ?_
      refine rw_V (As := [Value.int (iI 1)]) (rest := []) ⟨hx, hb, hml, hown, hts⟩ (c_X10_refused l g τ ma M 1 ⟨by decide, by decide⟩) gX10_older_X10_refused cd_X10_refused rfl rfl ⟨rfl, rfl⟩ ⟨Nat.le_of_ble_eq_true rfl, Nat.le_of_ble_eq_true rfl⟩ hK hP hD hS [0] (rfl) (by decide) 0 rfl rfl rfl rfl hl rfl (Nat.le_of_ble_eq_true rfl) dX10_older_28 ⟨Nat.le_of_ble_eq_true rfl, Nat.le_of_ble_eq_true rfl⟩ (fun v w h => by rw [h.2]; rfl) (fun v w1 H locs hZ hP hD hS => ?_)
      obtain ⟨rfl, rfl⟩ := hZ
      have hP : va_P g vwCl ([moO ma (updZ M 0 1), arC (ma 1) (τ 0) 291 (flR R)]) H := hP
      have hD : va_D A ([moO ma (updZ M 0 1), arC (ma 1) (τ 0) 291 (flR R)]) := hD
      refine tl_some ?_
      refine cv_i (y := iI 1) (congrArg iI (if_neg (by decide))) ?_
      refine zi_if_eq (tgt := 36) hx hb ⟨by decide, by decide⟩ dX10_older_31 (by decide) (fun c_4 => ?_) (fun c_4 => ?_)
      · exact absurd c_4 (by decide)
      refine lv_iconst (v := iI 0) hx hb dX10_older_34 (by decide) ?_
      exact rw_iret hx hb hr hlocks hP hS (⟨by (refine Eq.symm ?_; unfold pOlder; (try simp only [Int.toNat_natCast]); repeat (first | rw [if_pos (by omega)] | rw [if_neg (by omega)])) <;> first | rfl | (exfalso; omega), (updZ M 0 1), by show 1 = _; (refine Eq.symm ?_; unfold pOlder; (try simp only [Int.toNat_natCast]); repeat (first | rw [if_pos (by omega)] | rw [if_neg (by omega)])) <;> first | rfl | (exfalso; omega), by show M 5 = M 5; first | rfl | omega, by show M 9 = M 9; first | rfl | omega, rfl⟩) dX10_older_35
    · have cd_c_3 := of_decide_eq_true c_3
      refine lv_iconst (v := iI 0) hx hb dX10_older_23 (by decide) ?_
      refine lv_goto (tgt := 28) hx hb dX10_older_24 (by decide) ?_
      refine rw_V (As := [Value.int (iI 0)]) (rest := []) ⟨hx, hb, hml, hown, hts⟩ (c_X10_refused l g τ ma M 0 ⟨by decide, by decide⟩) gX10_older_X10_refused cd_X10_refused rfl rfl ⟨rfl, rfl⟩ ⟨Nat.le_of_ble_eq_true rfl, Nat.le_of_ble_eq_true rfl⟩ hK hP hD hS [0] (rfl) (by decide) 0 rfl rfl rfl rfl hl rfl (Nat.le_of_ble_eq_true rfl) dX10_older_28 ⟨Nat.le_of_ble_eq_true rfl, Nat.le_of_ble_eq_true rfl⟩ (fun v w h => by rw [h.2]; rfl) (fun v w1 H locs hZ hP hD hS => ?_)
      obtain ⟨rfl, rfl⟩ := hZ
      have hP : va_P g vwCl ([moO ma (updZ M 0 0), arC (ma 1) (τ 0) 291 (flR R)]) H := hP
      have hD : va_D A ([moO ma (updZ M 0 0), arC (ma 1) (τ 0) 291 (flR R)]) := hD
      refine tl_some ?_
      refine cv_i (y := iI 0) (congrArg iI (if_pos rfl)) ?_
      refine zi_if_eq (tgt := 36) hx hb ⟨by decide, by decide⟩ dX10_older_31 (by decide) (fun c_5 => ?_) (fun c_5 => ?_)
      · skip
        obtain ⟨r1, rfl⟩ := Int.eq_ofNat_of_zero_le (show 0 ≤ z1 by omega)
        obtain ⟨k1, rfl⟩ := Int.eq_ofNat_of_zero_le (show 0 ≤ w1 by omega)
        refine lv_aload_n hx hb dX10_older_36 rfl (lv_at hl 0 rfl) ?_
        refine va_get (D := g) (ci := 10) (v := Value.ref (ma 1)) (C := RX10) (T := TX10) (N := 18) hx hb hts in_X10_older_X10 hown hK.1 hP 0 (rfl) rfl 1 (by decide) (hts _ (List.mem_of_getElem? (i := 1) rfl) : (Cond.fieldLink RX10 7 "CordSealsModel" "now" "[I").before _ s = true) (fun _ h9 => h9) rfl dX10_older_37 ?_
        refine lv_iload_n hx hb dX10_older_40 rfl (lv_at hl 1 rfl) ?_
        refine lv_iconst (v := iI 2) hx hb dX10_older_41 (by decide) ?_
        refine ro_S (As := [Value.ref (ma 1), Value.int (iI (r1 : Int)), Value.int (iI 2)]) (rest := []) (v := some (Value.int (iI (rY R (sLo R r1) (sHi R r1) (rMask R r1) 2)))) ⟨hx, hb, hml, hown, hts⟩ (c_X10_yearsOf l g τ (ma 1) R hI r1 (by omega) 2 (by omega)) gX10_older_X10_yearsOf cd_X10_yearsOf rfl ⟨rfl, rfl⟩ ⟨Nat.le_of_ble_eq_true rfl, Nat.le_of_ble_eq_true rfl⟩ hK (cut_P (is := [1]) hP rfl) rfl hl rfl (Nat.le_of_ble_eq_true rfl) dX10_older_42 ⟨Nat.le_of_ble_eq_true rfl, Nat.le_of_ble_eq_true rfl⟩ ?_
        refine tl_some ?_
        have := rY_b hI (lo := sLo R r1) (hi := sHi R r1) (w := rMask R r1) (sLo_b hI _) (sHi_b hI _) 2
        have := y0_b hI r1
        refine zi_if_eq (tgt := 60) hx hb ⟨by omega, by omega⟩ dX10_older_45 (by decide) (fun c_6 => ?_) (fun c_6 => ?_)
        · have _ := c_6
          refine lv_iconst (v := iI (-1)) hx hb dX10_older_60 (by decide) ?_
          exact rw_iret hx hb hr hlocks hP hS (⟨by (refine Eq.symm ?_; unfold pOlder; (try simp only [Int.toNat_natCast]); repeat (first | rw [if_pos (by omega)] | rw [if_neg (by omega)])) <;> first | rfl | (exfalso; omega), (updZ M 0 0), by show 0 = _; (refine Eq.symm ?_; unfold pOlder; (try simp only [Int.toNat_natCast]); repeat (first | rw [if_pos (by omega)] | rw [if_neg (by omega)])) <;> first | rfl | (exfalso; omega), by show M 5 = M 5; first | rfl | omega, by show M 9 = M 9; first | rfl | omega, rfl⟩) dX10_older_61
        · have _ := c_6
          refine lv_aload_n hx hb dX10_older_48 rfl (lv_at hl 0 rfl) ?_
          refine va_get (D := g) (ci := 10) (v := Value.ref (ma 1)) (C := RX10) (T := TX10) (N := 18) hx hb hts in_X10_older_X10 hown hK.1 hP 0 (rfl) rfl 1 (by decide) (hts _ (List.mem_of_getElem? (i := 1) rfl) : (Cond.fieldLink RX10 7 "CordSealsModel" "now" "[I").before _ s = true) (fun _ h9 => h9) rfl dX10_older_49 ?_
          refine lv_iload_n hx hb dX10_older_52 rfl (lv_at hl 2 rfl) ?_
          refine lv_iconst (v := iI 2) hx hb dX10_older_53 (by decide) ?_
          refine ro_S (As := [Value.ref (ma 1), Value.int (iI (k1 : Int)), Value.int (iI 2)]) (rest := []) (v := some (Value.int (iI (rY R (sLo R k1) (sHi R k1) (rMask R k1) 2)))) ⟨hx, hb, hml, hown, hts⟩ (c_X10_yearsOf l g τ (ma 1) R hI k1 (by omega) 2 (by omega)) gX10_older_X10_yearsOf cd_X10_yearsOf rfl ⟨rfl, rfl⟩ ⟨Nat.le_of_ble_eq_true rfl, Nat.le_of_ble_eq_true rfl⟩ hK (cut_P (is := [1]) hP rfl) rfl hl rfl (Nat.le_of_ble_eq_true rfl) dX10_older_54 ⟨Nat.le_of_ble_eq_true rfl, Nat.le_of_ble_eq_true rfl⟩ ?_
          refine tl_some ?_
          have := rY_b hI (lo := sLo R k1) (hi := sHi R k1) (w := rMask R k1) (sLo_b hI _) (sHi_b hI _) 2
          have := y0_b hI k1
          refine zi_if_ne (tgt := 62) hx hb ⟨by omega, by omega⟩ dX10_older_57 (by decide) (fun c_7 => ?_) (fun c_7 => ?_)
          · have _ := c_7
            refine lv_aload_n hx hb dX10_older_62 rfl (lv_at hl 0 rfl) ?_
            refine va_get (D := g) (ci := 10) (v := Value.ref (ma 1)) (C := RX10) (T := TX10) (N := 18) hx hb hts in_X10_older_X10 hown hK.1 hP 0 (rfl) rfl 1 (by decide) (hts _ (List.mem_of_getElem? (i := 1) rfl) : (Cond.fieldLink RX10 7 "CordSealsModel" "now" "[I").before _ s = true) (fun _ h9 => h9) rfl dX10_older_63 ?_
            refine lv_iload_n hx hb dX10_older_66 rfl (lv_at hl 1 rfl) ?_
            refine lv_iconst (v := iI 1) hx hb dX10_older_67 (by decide) ?_
            refine ro_S (As := [Value.ref (ma 1), Value.int (iI (r1 : Int)), Value.int (iI 1)]) (rest := []) (v := some (Value.int (iI (rY R (sLo R r1) (sHi R r1) (rMask R r1) 1)))) ⟨hx, hb, hml, hown, hts⟩ (c_X10_yearsOf l g τ (ma 1) R hI r1 (by omega) 1 (by omega)) gX10_older_X10_yearsOf cd_X10_yearsOf rfl ⟨rfl, rfl⟩ ⟨Nat.le_of_ble_eq_true rfl, Nat.le_of_ble_eq_true rfl⟩ hK (cut_P (is := [1]) hP rfl) rfl hl rfl (Nat.le_of_ble_eq_true rfl) dX10_older_68 ⟨Nat.le_of_ble_eq_true rfl, Nat.le_of_ble_eq_true rfl⟩ ?_
            refine tl_some ?_
            have := rY_b hI (lo := sLo R r1) (hi := sHi R r1) (w := rMask R r1) (sLo_b hI _) (sHi_b hI _) 1
            have := y0_b hI r1
            refine lv_aload_n hx hb dX10_older_71 rfl (lv_at hl 0 rfl) ?_
            refine va_get (D := g) (ci := 10) (v := Value.ref (ma 1)) (C := RX10) (T := TX10) (N := 18) hx hb hts in_X10_older_X10 hown hK.1 hP 0 (rfl) rfl 1 (by decide) (hts _ (List.mem_of_getElem? (i := 1) rfl) : (Cond.fieldLink RX10 7 "CordSealsModel" "now" "[I").before _ s = true) (fun _ h9 => h9) rfl dX10_older_72 ?_
            refine lv_iload_n hx hb dX10_older_75 rfl (lv_at hl 2 rfl) ?_
            refine lv_iconst (v := iI 0) hx hb dX10_older_76 (by decide) ?_
            refine ro_S (As := [Value.ref (ma 1), Value.int (iI (k1 : Int)), Value.int (iI 0)]) (rest := [Value.int (iI (rY R (sLo R r1) (sHi R r1) (rMask R r1) 1))]) (v := some (Value.int (iI (y0 R k1)))) ⟨hx, hb, hml, hown, hts⟩ (c_X10_yearsOf l g τ (ma 1) R hI k1 (by omega) 0 (by omega)) gX10_older_X10_yearsOf cd_X10_yearsOf rfl ⟨rfl, rfl⟩ ⟨Nat.le_of_ble_eq_true rfl, Nat.le_of_ble_eq_true rfl⟩ hK (cut_P (is := [1]) hP rfl) rfl hl rfl (Nat.le_of_ble_eq_true rfl) dX10_older_77 ⟨Nat.le_of_ble_eq_true rfl, Nat.le_of_ble_eq_true rfl⟩ ?_
            refine tl_some ?_
            have := rY_b hI (lo := sLo R k1) (hi := sHi R k1) (w := rMask R k1) (sLo_b hI _) (sHi_b hI _) 0
            have := y0_b hI k1
            refine zi_icmp_ge (tgt := 87) hx hb ⟨by omega, by omega⟩ ⟨by omega, by omega⟩ dX10_older_80 (by decide) (fun c_8 => ?_) (fun c_8 => ?_)
            · have _ := c_8
              refine lv_aload_n hx hb dX10_older_87 rfl (lv_at hl 0 rfl) ?_
              refine va_get (D := g) (ci := 10) (v := Value.ref (ma 1)) (C := RX10) (T := TX10) (N := 18) hx hb hts in_X10_older_X10 hown hK.1 hP 0 (rfl) rfl 1 (by decide) (hts _ (List.mem_of_getElem? (i := 1) rfl) : (Cond.fieldLink RX10 7 "CordSealsModel" "now" "[I").before _ s = true) (fun _ h9 => h9) rfl dX10_older_88 ?_
              refine lv_iload_n hx hb dX10_older_91 rfl (lv_at hl 2 rfl) ?_
              refine lv_iconst (v := iI 1) hx hb dX10_older_92 (by decide) ?_
              refine ro_S (As := [Value.ref (ma 1), Value.int (iI (k1 : Int)), Value.int (iI 1)]) (rest := []) (v := some (Value.int (iI (rY R (sLo R k1) (sHi R k1) (rMask R k1) 1)))) ⟨hx, hb, hml, hown, hts⟩ (c_X10_yearsOf l g τ (ma 1) R hI k1 (by omega) 1 (by omega)) gX10_older_X10_yearsOf cd_X10_yearsOf rfl ⟨rfl, rfl⟩ ⟨Nat.le_of_ble_eq_true rfl, Nat.le_of_ble_eq_true rfl⟩ hK (cut_P (is := [1]) hP rfl) rfl hl rfl (Nat.le_of_ble_eq_true rfl) dX10_older_93 ⟨Nat.le_of_ble_eq_true rfl, Nat.le_of_ble_eq_true rfl⟩ ?_
              refine tl_some ?_
              have := rY_b hI (lo := sLo R k1) (hi := sHi R k1) (w := rMask R k1) (sLo_b hI _) (sHi_b hI _) 1
              have := y0_b hI k1
              refine lv_aload_n hx hb dX10_older_96 rfl (lv_at hl 0 rfl) ?_
              refine va_get (D := g) (ci := 10) (v := Value.ref (ma 1)) (C := RX10) (T := TX10) (N := 18) hx hb hts in_X10_older_X10 hown hK.1 hP 0 (rfl) rfl 1 (by decide) (hts _ (List.mem_of_getElem? (i := 1) rfl) : (Cond.fieldLink RX10 7 "CordSealsModel" "now" "[I").before _ s = true) (fun _ h9 => h9) rfl dX10_older_97 ?_
              refine lv_iload_n hx hb dX10_older_100 rfl (lv_at hl 1 rfl) ?_
              refine lv_iconst (v := iI 0) hx hb dX10_older_101 (by decide) ?_
              refine ro_S (As := [Value.ref (ma 1), Value.int (iI (r1 : Int)), Value.int (iI 0)]) (rest := [Value.int (iI (rY R (sLo R k1) (sHi R k1) (rMask R k1) 1))]) (v := some (Value.int (iI (y0 R r1)))) ⟨hx, hb, hml, hown, hts⟩ (c_X10_yearsOf l g τ (ma 1) R hI r1 (by omega) 0 (by omega)) gX10_older_X10_yearsOf cd_X10_yearsOf rfl ⟨rfl, rfl⟩ ⟨Nat.le_of_ble_eq_true rfl, Nat.le_of_ble_eq_true rfl⟩ hK (cut_P (is := [1]) hP rfl) rfl hl rfl (Nat.le_of_ble_eq_true rfl) dX10_older_102 ⟨Nat.le_of_ble_eq_true rfl, Nat.le_of_ble_eq_true rfl⟩ ?_
              refine tl_some ?_
              have := rY_b hI (lo := sLo R r1) (hi := sHi R r1) (w := rMask R r1) (sLo_b hI _) (sHi_b hI _) 0
              have := y0_b hI r1
              refine zi_icmp_ge (tgt := 112) hx hb ⟨by omega, by omega⟩ ⟨by omega, by omega⟩ dX10_older_105 (by decide) (fun c_9 => ?_) (fun c_9 => ?_)
              · have _ := c_9
                refine lv_iconst (v := iI (-1)) hx hb dX10_older_112 (by decide) ?_
                exact rw_iret hx hb hr hlocks hP hS (⟨by (refine Eq.symm ?_; unfold pOlder; (try simp only [Int.toNat_natCast]); repeat (first | rw [if_pos (by omega)] | rw [if_neg (by omega)])) <;> first | rfl | (exfalso; omega), (updZ M 0 0), by show 0 = _; (refine Eq.symm ?_; unfold pOlder; (try simp only [Int.toNat_natCast]); repeat (first | rw [if_pos (by omega)] | rw [if_neg (by omega)])) <;> first | rfl | (exfalso; omega), by show M 5 = M 5; first | rfl | omega, by show M 9 = M 9; first | rfl | omega, rfl⟩) dX10_older_113
              · have _ := c_9
                refine lv_iload_n hx hb dX10_older_108 rfl (lv_at hl 2 rfl) ?_
                refine lv_goto (tgt := 113) hx hb dX10_older_109 (by decide) ?_
                exact rw_iret hx hb hr hlocks hP hS (⟨by (refine Eq.symm ?_; unfold pOlder; (try simp only [Int.toNat_natCast]); repeat (first | rw [if_pos (by omega)] | rw [if_neg (by omega)])) <;> first | rfl | (exfalso; omega), (updZ M 0 0), by show 0 = _; (refine Eq.symm ?_; unfold pOlder; (try simp only [Int.toNat_natCast]); repeat (first | rw [if_pos (by omega)] | rw [if_neg (by omega)])) <;> first | rfl | (exfalso; omega), by show M 5 = M 5; first | rfl | omega, by show M 9 = M 9; first | rfl | omega, rfl⟩) dX10_older_113
            · have _ := c_8
              refine lv_iload_n hx hb dX10_older_83 rfl (lv_at hl 1 rfl) ?_
              refine lv_goto (tgt := 113) hx hb dX10_older_84 (by decide) ?_
              exact rw_iret hx hb hr hlocks hP hS (⟨by (refine Eq.symm ?_; unfold pOlder; (try simp only [Int.toNat_natCast]); repeat (first | rw [if_pos (by omega)] | rw [if_neg (by omega)])) <;> first | rfl | (exfalso; omega), (updZ M 0 0), by show 0 = _; (refine Eq.symm ?_; unfold pOlder; (try simp only [Int.toNat_natCast]); repeat (first | rw [if_pos (by omega)] | rw [if_neg (by omega)])) <;> first | rfl | (exfalso; omega), by show M 5 = M 5; first | rfl | omega, by show M 9 = M 9; first | rfl | omega, rfl⟩) dX10_older_113
          · have _ := c_7
            refine lv_iconst (v := iI (-1)) hx hb dX10_older_60 (by decide) ?_
            exact rw_iret hx hb hr hlocks hP hS (⟨by (refine Eq.symm ?_; unfold pOlder; (try simp only [Int.toNat_natCast]); repeat (first | rw [if_pos (by omega)] | rw [if_neg (by omega)])) <;> first | rfl | (exfalso; omega), (updZ M 0 0), by show 0 = _; (refine Eq.symm ?_; unfold pOlder; (try simp only [Int.toNat_natCast]); repeat (first | rw [if_pos (by omega)] | rw [if_neg (by omega)])) <;> first | rfl | (exfalso; omega), by show M 5 = M 5; first | rfl | omega, by show M 9 = M 9; first | rfl | omega, rfl⟩) dX10_older_61
      · exact absurd c_5 (by decide)

theorem cd_X10_decides : cd yX10_decides 1 := by decide +kernel
theorem in_X10_decides_X10 : ∀ w ∈ wsX100, w ∈ wsX10_decides := by decide +kernel
set_option maxHeartbeats 1000000 in
set_option maxRecDepth 100000 in
theorem c_X10_decides (l : Launch) (g : va_G) (τ : Nat → ClassId) (ma : Nat → Nat) (M : Nat → Int) (R : Nat → Nat → Int) (hI : SI R) (c1 : Int) (rc1 : -2147483648 ≤ c1 ∧ c1 < 2147483648)  : Met l yX10_decides wsX10_decides { frames := 6, cells := 0, slots := 0, locals := 143 } (va_Pc [Value.ref (ma 0), Value.int (iI c1)] (rwW g τ ([moO ma M, arC (ma 1) (τ 0) 291 (flR R)]))) (rwQ g (fun v w => v = some (Value.int (iI (pDec R c1).2)) ∧ ∃ M2 : Nat → Int, M2 0 = (pDec R c1).1 ∧ M2 5 = M 5 ∧ M2 9 = M 9 ∧ w = [moO ma M2, arC (ma 1) (τ 0) 291 (flR R)]) (inW ([moO ma M, arC (ma 1) (τ 0) 291 (flR R)]))) 0 0 (inW ([moO ma M, arC (ma 1) (τ 0) 291 (flR R)])) := by
  have hB := hI.hB
  have hr0 := hI.r
  have hd0 := hI.d
  have hs0 := hI.s
  refine rwMet (cc := cX10_decides) (maxL := 6) (ret := (some .int)) (lv := [(0, Value.ref (ma 0)), (1, Value.int (iI c1))]) (by decide) rfl (Nat.le_of_ble_eq_true rfl) rfl ?_
  intro p e s m below meth c hx hb hr hml hts hown hlocks A H hP hD hS hK ls hl
  refine lv_aload_n hx hb dX10_decides_0 rfl (lv_at hl 0 rfl) ?_
  refine lv_iload_n hx hb dX10_decides_1 rfl (lv_at hl 1 rfl) ?_
  refine ro_S (As := [Value.int (iI c1)]) (rest := [Value.ref (ma 0)]) (v := some (Value.int (iI (zB (decide (0 ≤ c1 ∧ c1 ≤ 5)))))) ⟨hx, hb, hml, hown, hts⟩ (c_X10_isCharter l g τ c1 ⟨by omega, by omega⟩) gX10_decides_X10_isCharter cd_X10_isCharter rfl ⟨rfl, rfl⟩ ⟨Nat.le_of_ble_eq_true rfl, Nat.le_of_ble_eq_true rfl⟩ hK (fun _ _ h => by cases h) rfl hl rfl (Nat.le_of_ble_eq_true rfl) dX10_decides_2 ⟨Nat.le_of_ble_eq_true rfl, Nat.le_of_ble_eq_true rfl⟩ ?_
  refine tl_some ?_
  refine zb_if_eq (tgt := 12) hx hb dX10_decides_5 (by decide) (fun c_1 => ?_) (fun c_1 => ?_)
  · have cd_c_1 := of_decide_eq_false c_1
    refine lv_iconst (v := iI 1) hx hb dX10_decides_12 (by decide) ?_
    refine rw_V (As := [Value.int (iI 1)]) (rest := []) ⟨hx, hb, hml, hown, hts⟩ (c_X10_refused l g τ ma M 1 ⟨by decide, by decide⟩) gX10_decides_X10_refused cd_X10_refused rfl rfl ⟨rfl, rfl⟩ ⟨Nat.le_of_ble_eq_true rfl, Nat.le_of_ble_eq_true rfl⟩ hK hP hD hS [0] (rfl) (by decide) 0 rfl rfl rfl rfl hl rfl (Nat.le_of_ble_eq_true rfl) dX10_decides_13 ⟨Nat.le_of_ble_eq_true rfl, Nat.le_of_ble_eq_true rfl⟩ (fun v w h => by rw [h.2]; rfl) (fun v w1 H locs hZ hP hD hS => ?_)
    obtain ⟨rfl, rfl⟩ := hZ
    have hP : va_P g vwCl ([moO ma (updZ M 0 1), arC (ma 1) (τ 0) 291 (flR R)]) H := hP
    have hD : va_D A ([moO ma (updZ M 0 1), arC (ma 1) (τ 0) 291 (flR R)]) := hD
    refine tl_some ?_
    refine cv_i (y := iI 1) (congrArg iI (if_neg (by decide))) ?_
    refine zi_if_eq (tgt := 21) hx hb ⟨by decide, by decide⟩ dX10_decides_16 (by decide) (fun c_2 => ?_) (fun c_2 => ?_)
    · exact absurd c_2 (by decide)
    refine lv_iconst (v := iI 0) hx hb dX10_decides_19 (by decide) ?_
    exact rw_iret hx hb hr hlocks hP hS (⟨by (refine Eq.symm ?_; unfold pDec; (try simp only [Int.toNat_natCast]); repeat (first | rw [if_pos (by omega)] | rw [if_neg (by omega)])) <;> first | rfl | (exfalso; omega), (updZ M 0 1), by show 1 = _; (refine Eq.symm ?_; unfold pDec; (try simp only [Int.toNat_natCast]); repeat (first | rw [if_pos (by omega)] | rw [if_neg (by omega)])) <;> first | rfl | (exfalso; omega), by show M 5 = M 5; first | rfl | omega, by show M 9 = M 9; first | rfl | omega, rfl⟩) dX10_decides_20
  · have cd_c_1 := of_decide_eq_true c_1
    refine lv_iconst (v := iI 0) hx hb dX10_decides_8 (by decide) ?_
    refine lv_goto (tgt := 13) hx hb dX10_decides_9 (by decide) ?_
    refine rw_V (As := [Value.int (iI 0)]) (rest := []) ⟨hx, hb, hml, hown, hts⟩ (c_X10_refused l g τ ma M 0 ⟨by decide, by decide⟩) gX10_decides_X10_refused cd_X10_refused rfl rfl ⟨rfl, rfl⟩ ⟨Nat.le_of_ble_eq_true rfl, Nat.le_of_ble_eq_true rfl⟩ hK hP hD hS [0] (rfl) (by decide) 0 rfl rfl rfl rfl hl rfl (Nat.le_of_ble_eq_true rfl) dX10_decides_13 ⟨Nat.le_of_ble_eq_true rfl, Nat.le_of_ble_eq_true rfl⟩ (fun v w h => by rw [h.2]; rfl) (fun v w1 H locs hZ hP hD hS => ?_)
    obtain ⟨rfl, rfl⟩ := hZ
    have hP : va_P g vwCl ([moO ma (updZ M 0 0), arC (ma 1) (τ 0) 291 (flR R)]) H := hP
    have hD : va_D A ([moO ma (updZ M 0 0), arC (ma 1) (τ 0) 291 (flR R)]) := hD
    refine tl_some ?_
    refine cv_i (y := iI 0) (congrArg iI (if_pos rfl)) ?_
    refine zi_if_eq (tgt := 21) hx hb ⟨by decide, by decide⟩ dX10_decides_16 (by decide) (fun c_3 => ?_) (fun c_3 => ?_)
    · skip
      refine lv_iconst (v := iI (-1)) hx hb dX10_decides_21 (by decide) ?_
      refine lv_istore_n (lv' := [(2, Value.int (iI (-1))), (0, Value.ref (ma 0)), (1, Value.int (iI c1))]) hx hb dX10_decides_22 rfl hl (by decide) rfl (fun ls hl => ?_)
      refine lv_iconst (v := iI (-1)) hx hb dX10_decides_23 (by decide) ?_
      refine lv_istore_n (lv' := [(3, Value.int (iI (-1))), (2, Value.int (iI (-1))), (0, Value.ref (ma 0)), (1, Value.int (iI c1))]) hx hb dX10_decides_24 rfl hl (by decide) rfl (fun ls hl => ?_)
      refine lv_iconst (v := iI 0) hx hb dX10_decides_25 (by decide) ?_
      refine lv_istore (lv' := [(4, Value.int (iI 0)), (3, Value.int (iI (-1))), (2, Value.int (iI (-1))), (0, Value.ref (ma 0)), (1, Value.int (iI c1))]) hx hb dX10_decides_26 hl (by decide) rfl (fun ls hl => ?_)
      have h0_4 : rDm R c1 0 = (-1) := rfl
      have h0_5 : rDb R c1 0 = (-1) := rfl
      have hP : va_P g vwCl ([moO ma (updZ M 0 0), arC (ma 1) (τ 0) 291 (flR R)]) H := by first | exact hP | (exact hP)
      have hD : va_D A ([moO ma (updZ M 0 0), arC (ma 1) (τ 0) 291 (flR R)]) := by first | exact hD | (exact hD)
      refine lp_upX (fun i => [(4, Value.int (iI (i : Int))), (3, Value.int (iI (rDm R c1 i))), (2, Value.int (iI (rDb R c1 i))), (0, Value.ref (ma 0)), (1, Value.int (iI c1))]) (fun i M_6 => [moO ma M_6, arC (ma 1) (τ 0) 291 (flR R)]) (fun i M_6 => AG (updZ M 0 0) M_6) ((R 10 0).toNat) (0) (updZ M 0 0) (by omega) hP hD hS (AG_r _) (lv_eq (lv_sub hl [0, 1, 2, 3, 4] rfl) (by show [(4, Value.int (iI 0)), (3, Value.int (iI (rDm R c1 0))), (2, Value.int (iI (rDb R c1 0))), (0, Value.ref (ma 0)), (1, Value.int (iI c1))] = [(4, Value.int (iI 0)), (3, Value.int (iI (-1))), (2, Value.int (iI (-1))), (0, Value.ref (ma 0)), (1, Value.int (iI c1))]; rw [h0_4, h0_5])) (fun i h0_i hi_i M_6 hJ_i ih_28 H locs hP hD hS ls hl => ?_)
      have hfM_6_0 : M_6 0 = 0 := hJ_i 0 (by decide)
      have hfM_6_5 : M_6 5 = M 5 := hJ_i 5 (by decide)
      have hfM_6_9 : M_6 9 = M 9 := hJ_i 9 (by decide)
      have hfM_6_10 : M_6 10 = M 10 := hJ_i 10 (by decide)
      have hfM_6_11 : M_6 11 = M 11 := hJ_i 11 (by decide)
      have hfM_6_12 : M_6 12 = M 12 := hJ_i 12 (by decide)
      have hdm := rDm_b hI c1 i
      refine lv_iload hx hb dX10_decides_28 (lv_at hl 0 rfl) ?_
      refine lv_aload_n hx hb dX10_decides_30 rfl (lv_at hl 3 rfl) ?_
      refine va_get (D := g) (ci := 10) (v := Value.ref (ma 1)) (C := RX10) (T := TX10) (N := 18) hx hb hts in_X10_decides_X10 hown hK.1 hP 0 (rfl) rfl 1 (by decide) (hts _ (List.mem_of_getElem? (i := 1) rfl) : (Cond.fieldLink RX10 7 "CordSealsModel" "now" "[I").before _ s = true) (fun _ h9 => h9) rfl dX10_decides_31 ?_
      refine lv_iconst (v := iI 2) hx hb dX10_decides_34 (by decide) ?_
      refine zf_ald hx hb hK hP 1 (f := flR R) rfl (2) (rfl) (by omega) (by decide) (z := R 10 0) (fl_10) dX10_decides_35 ?_
      have hb_7 := hB 10 0
      refine zi_icmp_ge (tgt := 112) hx hb ⟨by omega, by omega⟩ ⟨by omega, by omega⟩ dX10_decides_36 (by decide) (fun c_8 => ?_) (fun c_8 => ?_)
      · have _ := c_8
        have h0_i : i = (R 10 0).toNat := by omega
        rw [h0_i] at hl
        refine lv_iload_n hx hb dX10_decides_112 rfl (lv_at hl 2 rfl) ?_
        exact rw_iret hx hb hr hlocks hP hS (⟨by (refine Eq.symm ?_; unfold pDec; (try simp only [Int.toNat_natCast]); repeat (first | rw [if_pos (by omega)] | rw [if_neg (by omega)])) <;> first | rfl | (exfalso; omega), M_6, by show M_6 0 = _; rw [show M_6 0 = 0 from by omega]; (refine Eq.symm ?_; unfold pDec; (try simp only [Int.toNat_natCast]); repeat (first | rw [if_pos (by omega)] | rw [if_neg (by omega)])) <;> first | rfl | (exfalso; omega), by show M_6 5 = M 5; first | rfl | omega, by show M_6 9 = M 9; first | rfl | omega, rfl⟩) dX10_decides_113
      · have _ := c_8
        have hl_i : i < (R 10 0).toNat := by omega
        refine lv_aload_n hx hb dX10_decides_39 rfl (lv_at hl 3 rfl) ?_
        refine va_get (D := g) (ci := 10) (v := Value.ref (ma 1)) (C := RX10) (T := TX10) (N := 18) hx hb hts in_X10_decides_X10 hown hK.1 hP 0 (rfl) rfl 1 (by decide) (hts _ (List.mem_of_getElem? (i := 1) rfl) : (Cond.fieldLink RX10 7 "CordSealsModel" "now" "[I").before _ s = true) (fun _ h9 => h9) rfl dX10_decides_40 ?_
        refine lv_sipush (v := iI 225) hx hb dX10_decides_43 (by decide) ?_
        refine lv_iload hx hb dX10_decides_46 (lv_at hl 0 rfl) ?_
        refine zi_add hx hb dX10_decides_48 ?_
        refine zf_ald hx hb hK hP 1 (f := flR R) rfl (225 + i) (by omega) (by omega) (by decide) (z := R 16 i) (fl_16 (i := i) (by omega) (by omega)) dX10_decides_49 ?_
        have hb_9 := hB 16 i
        refine lv_iload_n hx hb dX10_decides_50 rfl (lv_at hl 4 rfl) ?_
        refine zi_icmp_ne (tgt := 106) hx hb ⟨by omega, by omega⟩ ⟨by omega, by omega⟩ dX10_decides_51 (by decide) (fun c_10 => ?_) (fun c_10 => ?_)
        · have _ := c_10
          refine zi_inc (v := ((i + 1 : Nat) : Int)) (lv' := [(4, Value.int (iI ((i + 1 : Nat) : Int))), (3, Value.int (iI (rDm R c1 i))), (2, Value.int (iI (rDb R c1 i))), (0, Value.ref (ma 0)), (1, Value.int (iI c1))]) hx hb dX10_decides_106 hl (k := 0) rfl (by omega) (by decide) rfl (fun ls hl => ?_)
          refine lv_goto (tgt := 28) hx hb dX10_decides_109 (by decide) ?_
          have hb_11 : (((i + 1) : Nat) : Int) = ((i + 1 : Nat) : Int) := by first | rfl | omega | (simp [c_1, c_8, c_10]; done)
          have hb_12 : rDm R c1 (i + 1) = rDm R c1 i := by rw [rDm]; first | rw [if_pos (by omega)] | rw [if_neg (by omega)]
          have hb_13 : rDb R c1 (i + 1) = rDb R c1 i := by rw [rDb]; first | rw [if_pos (by omega)] | rw [if_neg (by omega)]
          exact ih_28 hl_i (M_6) (hJ_i) _ _ _ hP hD hS (lv_eq (lv_sub hl [0, 1, 2, 3, 4] rfl) (by show [(4, Value.int (iI (((i + 1) : Nat) : Int))), (3, Value.int (iI (rDm R c1 (i + 1)))), (2, Value.int (iI (rDb R c1 (i + 1)))), (0, Value.ref (ma 0)), (1, Value.int (iI c1))] = [(4, Value.int (iI ((i + 1 : Nat) : Int))), (3, Value.int (iI (rDm R c1 i))), (2, Value.int (iI (rDb R c1 i))), (0, Value.ref (ma 0)), (1, Value.int (iI c1))]; rw [hb_11, hb_12, hb_13]))
        · have _ := c_10
          refine lv_aload_n hx hb dX10_decides_54 rfl (lv_at hl 3 rfl) ?_
          refine va_get (D := g) (ci := 10) (v := Value.ref (ma 1)) (C := RX10) (T := TX10) (N := 18) hx hb hts in_X10_decides_X10 hown hK.1 hP 0 (rfl) rfl 1 (by decide) (hts _ (List.mem_of_getElem? (i := 1) rfl) : (Cond.fieldLink RX10 7 "CordSealsModel" "now" "[I").before _ s = true) (fun _ h9 => h9) rfl dX10_decides_55 ?_
          refine lv_iload hx hb dX10_decides_58 (lv_at hl 0 rfl) ?_
          refine ro_S (As := [Value.ref (ma 1), Value.int (iI (i : Int))]) (rest := []) (v := some (Value.int (iI (ownA R i)))) ⟨hx, hb, hml, hown, hts⟩ (c_X10_alone l g τ (ma 1) R hI i (by omega)) gX10_decides_X10_alone cd_X10_alone rfl ⟨rfl, rfl⟩ ⟨Nat.le_of_ble_eq_true rfl, Nat.le_of_ble_eq_true rfl⟩ hK (cut_P (is := [1]) hP rfl) rfl hl rfl (Nat.le_of_ble_eq_true rfl) dX10_decides_60 ⟨Nat.le_of_ble_eq_true rfl, Nat.le_of_ble_eq_true rfl⟩ ?_
          refine tl_some ?_
          have := ownA_b R i
          refine zi_if_ne (tgt := 106) hx hb ⟨by omega, by omega⟩ dX10_decides_63 (by decide) (fun c_14 => ?_) (fun c_14 => ?_)
          · have _ := c_14
            refine zi_inc (v := ((i + 1 : Nat) : Int)) (lv' := [(4, Value.int (iI ((i + 1 : Nat) : Int))), (3, Value.int (iI (rDm R c1 i))), (2, Value.int (iI (rDb R c1 i))), (0, Value.ref (ma 0)), (1, Value.int (iI c1))]) hx hb dX10_decides_106 hl (k := 0) rfl (by omega) (by decide) rfl (fun ls hl => ?_)
            refine lv_goto (tgt := 28) hx hb dX10_decides_109 (by decide) ?_
            have hb_15 : (((i + 1) : Nat) : Int) = ((i + 1 : Nat) : Int) := by first | rfl | omega | (simp [c_1, c_8, c_10, c_14]; done)
            have hb_16 : rDm R c1 (i + 1) = rDm R c1 i := by rw [rDm]; first | rw [if_pos (by omega)] | rw [if_neg (by omega)]
            have hb_17 : rDb R c1 (i + 1) = rDb R c1 i := by rw [rDb]; first | rw [if_pos (by omega)] | rw [if_neg (by omega)]
            exact ih_28 hl_i (M_6) (hJ_i) _ _ _ hP hD hS (lv_eq (lv_sub hl [0, 1, 2, 3, 4] rfl) (by show [(4, Value.int (iI (((i + 1) : Nat) : Int))), (3, Value.int (iI (rDm R c1 (i + 1)))), (2, Value.int (iI (rDb R c1 (i + 1)))), (0, Value.ref (ma 0)), (1, Value.int (iI c1))] = [(4, Value.int (iI ((i + 1 : Nat) : Int))), (3, Value.int (iI (rDm R c1 i))), (2, Value.int (iI (rDb R c1 i))), (0, Value.ref (ma 0)), (1, Value.int (iI c1))]; rw [hb_15, hb_16, hb_17]))
          · have _ := c_14
            refine lv_aload_n hx hb dX10_decides_66 rfl (lv_at hl 3 rfl) ?_
            refine lv_aload_n hx hb dX10_decides_67 rfl (lv_at hl 3 rfl) ?_
            refine va_get (D := g) (ci := 10) (v := Value.ref (ma 1)) (C := RX10) (T := TX10) (N := 18) hx hb hts in_X10_decides_X10 hown hK.1 hP 0 (rfl) rfl 1 (by decide) (hts _ (List.mem_of_getElem? (i := 1) rfl) : (Cond.fieldLink RX10 7 "CordSealsModel" "now" "[I").before _ s = true) (fun _ h9 => h9) rfl dX10_decides_68 ?_
            refine lv_iload_n hx hb dX10_decides_71 rfl (lv_at hl 4 rfl) ?_
            refine lv_iload hx hb dX10_decides_72 (lv_at hl 0 rfl) ?_
            refine lv_iconst (v := iI 2) hx hb dX10_decides_74 (by decide) ?_
            refine rw_V (As := [Value.ref (ma 1), Value.int (iI c1), Value.int (iI (i : Int)), Value.int (iI 2)]) (rest := []) ⟨hx, hb, hml, hown, hts⟩ (c_X10_ofCharter l g τ ma M_6 (ma 1) R hI c1 ⟨by omega, by omega⟩ (i : Int) ⟨by omega, by omega⟩ 2 ⟨by omega, by omega⟩) gX10_decides_X10_ofCharter cd_X10_ofCharter rfl rfl ⟨rfl, rfl⟩ ⟨Nat.le_of_ble_eq_true rfl, Nat.le_of_ble_eq_true rfl⟩ hK hP hD hS [0, 1] (rfl) (by decide) 0 rfl rfl rfl rfl hl rfl (Nat.le_of_ble_eq_true rfl) dX10_decides_75 ⟨Nat.le_of_ble_eq_true rfl, Nat.le_of_ble_eq_true rfl⟩ (fun v w h => by obtain ⟨-, M9, -, rfl⟩ := h; rfl) (fun v w1 H locs hZ hP hD hS => ?_)
            obtain ⟨rfl, M_18, hgM_18, rfl⟩ := hZ
            have hP : va_P g vwCl ([moO ma M_18, arC (ma 1) (τ 0) 291 (flR R)]) H := hP
            have hD : va_D A ([moO ma M_18, arC (ma 1) (τ 0) 291 (flR R)]) := hD
            have hfM_18_0 : M_18 0 = M_6 0 := hgM_18 0 (by decide)
            have hfM_18_5 : M_18 5 = M_6 5 := hgM_18 5 (by decide)
            have hfM_18_9 : M_18 9 = M_6 9 := hgM_18 9 (by decide)
            have hfM_18_10 : M_18 10 = M_6 10 := hgM_18 10 (by decide)
            have hfM_18_11 : M_18 11 = M_6 11 := hgM_18 11 (by decide)
            have hfM_18_12 : M_18 12 = M_6 12 := hgM_18 12 (by decide)
            have := rCh_b hI c1 (i : Int) 2
            refine tl_some ?_
            refine lv_istore (lv' := [(5, Value.int (iI (rCh R c1 (i : Int) 2))), (4, Value.int (iI (i : Int))), (3, Value.int (iI (rDm R c1 i))), (2, Value.int (iI (rDb R c1 i))), (0, Value.ref (ma 0)), (1, Value.int (iI c1))]) hx hb dX10_decides_78 hl (by decide) rfl (fun ls hl => ?_)
            refine jn (F0 m 92 ls (Value.int (iI (if rDm R c1 i < rCh R c1 (i : Int) 2 then (i : Int) else rDb R c1 i)) :: [])) ?_ (fun K => ?_)
            · skip
              refine lv_istore_n (lv' := [(2, Value.int (iI (if rDm R c1 i < rCh R c1 (i : Int) 2 then (i : Int) else rDb R c1 i))), (5, Value.int (iI (rCh R c1 (i : Int) 2))), (4, Value.int (iI (i : Int))), (3, Value.int (iI (rDm R c1 i))), (0, Value.ref (ma 0)), (1, Value.int (iI c1))]) hx hb dX10_decides_92 rfl hl (by decide) rfl (fun ls hl => ?_)
              refine jn (F0 m 105 ls (Value.int (iI (if rDm R c1 i < rCh R c1 (i : Int) 2 then rCh R c1 (i : Int) 2 else rDm R c1 i)) :: [])) ?_ (fun K => ?_)
              · skip
                refine lv_istore_n (lv' := [(3, Value.int (iI (if rDm R c1 i < rCh R c1 (i : Int) 2 then rCh R c1 (i : Int) 2 else rDm R c1 i))), (2, Value.int (iI (if rDm R c1 i < rCh R c1 (i : Int) 2 then (i : Int) else rDb R c1 i))), (5, Value.int (iI (rCh R c1 (i : Int) 2))), (4, Value.int (iI (i : Int))), (0, Value.ref (ma 0)), (1, Value.int (iI c1))]) hx hb dX10_decides_105 rfl hl (by decide) rfl (fun ls hl => ?_)
                refine zi_inc (v := ((i + 1 : Nat) : Int)) (lv' := [(4, Value.int (iI ((i + 1 : Nat) : Int))), (3, Value.int (iI (if rDm R c1 i < rCh R c1 (i : Int) 2 then rCh R c1 (i : Int) 2 else rDm R c1 i))), (2, Value.int (iI (if rDm R c1 i < rCh R c1 (i : Int) 2 then (i : Int) else rDb R c1 i))), (5, Value.int (iI (rCh R c1 (i : Int) 2))), (0, Value.ref (ma 0)), (1, Value.int (iI c1))]) hx hb dX10_decides_106 hl (k := 3) rfl (by omega) (by decide) rfl (fun ls hl => ?_)
                refine lv_goto (tgt := 28) hx hb dX10_decides_109 (by decide) ?_
                have hb_19 : (((i + 1) : Nat) : Int) = ((i + 1 : Nat) : Int) := by first | rfl | omega | (simp [c_1, c_8, c_10, c_14]; done)
                have hb_20 : rDm R c1 (i + 1) = if rDm R c1 i < rCh R c1 (i : Int) 2 then rCh R c1 (i : Int) 2 else rDm R c1 i := by rw [rDm]; first | rw [if_pos (by omega)] | rw [if_neg (by omega)]
                have hb_21 : rDb R c1 (i + 1) = if rDm R c1 i < rCh R c1 (i : Int) 2 then (i : Int) else rDb R c1 i := by rw [rDb]; first | rw [if_pos (by omega)] | rw [if_neg (by omega)]
                exact ih_28 hl_i (M_18) (AG_t (hJ_i) hgM_18) _ _ _ hP hD hS (lv_eq (lv_sub hl [0, 1, 2, 4, 5] rfl) (by show [(4, Value.int (iI (((i + 1) : Nat) : Int))), (3, Value.int (iI (rDm R c1 (i + 1)))), (2, Value.int (iI (rDb R c1 (i + 1)))), (0, Value.ref (ma 0)), (1, Value.int (iI c1))] = [(4, Value.int (iI ((i + 1 : Nat) : Int))), (3, Value.int (iI (if rDm R c1 i < rCh R c1 (i : Int) 2 then rCh R c1 (i : Int) 2 else rDm R c1 i))), (2, Value.int (iI (if rDm R c1 i < rCh R c1 (i : Int) 2 then (i : Int) else rDb R c1 i))), (0, Value.ref (ma 0)), (1, Value.int (iI c1))]; rw [hb_19, hb_20, hb_21]))
              · skip
                refine lv_iload hx hb dX10_decides_93 (lv_at hl 1 rfl) ?_
                refine lv_iload_n hx hb dX10_decides_95 rfl (lv_at hl 3 rfl) ?_
                refine zi_icmp_le (tgt := 104) hx hb ⟨by omega, by omega⟩ ⟨by omega, by omega⟩ dX10_decides_96 (by decide) (fun c_22 => ?_) (fun c_22 => ?_)
                · have _ := c_22
                  refine lv_iload_n hx hb dX10_decides_104 rfl (lv_at hl 3 rfl) ?_
                  exact cv_i (congrArg iI (Eq.symm (show (if rDm R c1 i < rCh R c1 (i : Int) 2 then rCh R c1 (i : Int) 2 else rDm R c1 i) = (rDm R c1 i) from by first | rw [if_pos (by omega)] | rw [if_neg (by omega)]))) K
                · have _ := c_22
                  refine lv_iload hx hb dX10_decides_99 (lv_at hl 1 rfl) ?_
                  refine lv_goto (tgt := 105) hx hb dX10_decides_101 (by decide) ?_
                  exact cv_i (congrArg iI (Eq.symm (show (if rDm R c1 i < rCh R c1 (i : Int) 2 then rCh R c1 (i : Int) 2 else rDm R c1 i) = (rCh R c1 (i : Int) 2) from by first | rw [if_pos (by omega)] | rw [if_neg (by omega)]))) K
            · skip
              refine lv_iload hx hb dX10_decides_80 (lv_at hl 0 rfl) ?_
              refine lv_iload_n hx hb dX10_decides_82 rfl (lv_at hl 2 rfl) ?_
              refine zi_icmp_le (tgt := 91) hx hb ⟨by omega, by omega⟩ ⟨by omega, by omega⟩ dX10_decides_83 (by decide) (fun c_23 => ?_) (fun c_23 => ?_)
              · have _ := c_23
                refine lv_iload_n hx hb dX10_decides_91 rfl (lv_at hl 3 rfl) ?_
                exact cv_i (congrArg iI (Eq.symm (show (if rDm R c1 i < rCh R c1 (i : Int) 2 then (i : Int) else rDb R c1 i) = (rDb R c1 i) from by first | rw [if_pos (by omega)] | rw [if_neg (by omega)]))) K
              · have _ := c_23
                refine lv_iload hx hb dX10_decides_86 (lv_at hl 1 rfl) ?_
                refine lv_goto (tgt := 92) hx hb dX10_decides_88 (by decide) ?_
                exact cv_i (congrArg iI (Eq.symm (show (if rDm R c1 i < rCh R c1 (i : Int) 2 then (i : Int) else rDb R c1 i) = (i : Int) from by first | rw [if_pos (by omega)] | rw [if_neg (by omega)]))) K
    · exact absurd c_3 (by decide)

theorem cd_X10_inYear : cd yX10_inYear 1 := by decide +kernel
theorem in_X10_inYear_X10 : ∀ w ∈ wsX100, w ∈ wsX10_inYear := by decide +kernel
set_option maxHeartbeats 1000000 in
set_option maxRecDepth 100000 in
theorem c_X10_inYear (l : Launch) (g : va_G) (τ : Nat → ClassId) (ma : Nat → Nat) (M : Nat → Int) (R : Nat → Nat → Int) (hI : SI R) (y1 : Int) (ry1 : -2147483648 ≤ y1 ∧ y1 < 2147483648)  : Met l yX10_inYear wsX10_inYear { frames := 7, cells := 0, slots := 0, locals := 166 } (va_Pc [Value.ref (ma 0), Value.int (iI y1)] (rwW g τ ([moO ma M, arC (ma 1) (τ 0) 291 (flR R)]))) (rwQ g (fun v w => v = some (Value.int (iI (pIn R y1).2)) ∧ ∃ M2 : Nat → Int, M2 0 = (pIn R y1).1 ∧ M2 5 = M 5 ∧ M2 9 = M 9 ∧ w = [moO ma M2, arC (ma 1) (τ 0) 291 (flR R)]) (inW ([moO ma M, arC (ma 1) (τ 0) 291 (flR R)]))) 0 0 (inW ([moO ma M, arC (ma 1) (τ 0) 291 (flR R)])) := by
  have hB := hI.hB
  have hr0 := hI.r
  have hd0 := hI.d
  have hs0 := hI.s
  refine rwMet (cc := cX10_inYear) (maxL := 4) (ret := (some .int)) (lv := [(0, Value.ref (ma 0)), (1, Value.int (iI y1))]) (by decide) rfl (Nat.le_of_ble_eq_true rfl) rfl ?_
  intro p e s m below meth c hx hb hr hml hts hown hlocks A H hP hD hS hK ls hl
  refine lv_aload_n hx hb dX10_inYear_0 rfl (lv_at hl 0 rfl) ?_
  refine lv_iload_n hx hb dX10_inYear_1 rfl (lv_at hl 1 rfl) ?_
  refine ro_S (As := [Value.int (iI y1)]) (rest := [Value.ref (ma 0)]) (v := some (Value.int (iI (zB (decide (1000 ≤ y1 ∧ y1 ≤ 1999)))))) ⟨hx, hb, hml, hown, hts⟩ (c_X10_isYear l g τ y1 ⟨by omega, by omega⟩) gX10_inYear_X10_isYear cd_X10_isYear rfl ⟨rfl, rfl⟩ ⟨Nat.le_of_ble_eq_true rfl, Nat.le_of_ble_eq_true rfl⟩ hK (fun _ _ h => by cases h) rfl hl rfl (Nat.le_of_ble_eq_true rfl) dX10_inYear_2 ⟨Nat.le_of_ble_eq_true rfl, Nat.le_of_ble_eq_true rfl⟩ ?_
  refine tl_some ?_
  refine zb_if_eq (tgt := 12) hx hb dX10_inYear_5 (by decide) (fun c_1 => ?_) (fun c_1 => ?_)
  · have cd_c_1 := of_decide_eq_false c_1
    refine lv_iconst (v := iI 1) hx hb dX10_inYear_12 (by decide) ?_
    refine rw_V (As := [Value.int (iI 1)]) (rest := []) ⟨hx, hb, hml, hown, hts⟩ (c_X10_refused l g τ ma M 1 ⟨by decide, by decide⟩) gX10_inYear_X10_refused cd_X10_refused rfl rfl ⟨rfl, rfl⟩ ⟨Nat.le_of_ble_eq_true rfl, Nat.le_of_ble_eq_true rfl⟩ hK hP hD hS [0] (rfl) (by decide) 0 rfl rfl rfl rfl hl rfl (Nat.le_of_ble_eq_true rfl) dX10_inYear_13 ⟨Nat.le_of_ble_eq_true rfl, Nat.le_of_ble_eq_true rfl⟩ (fun v w h => by rw [h.2]; rfl) (fun v w1 H locs hZ hP hD hS => ?_)
    obtain ⟨rfl, rfl⟩ := hZ
    have hP : va_P g vwCl ([moO ma (updZ M 0 1), arC (ma 1) (τ 0) 291 (flR R)]) H := hP
    have hD : va_D A ([moO ma (updZ M 0 1), arC (ma 1) (τ 0) 291 (flR R)]) := hD
    refine tl_some ?_
    refine cv_i (y := iI 1) (congrArg iI (if_neg (by decide))) ?_
    refine zi_if_eq (tgt := 21) hx hb ⟨by decide, by decide⟩ dX10_inYear_16 (by decide) (fun c_2 => ?_) (fun c_2 => ?_)
    · exact absurd c_2 (by decide)
    refine lv_iconst (v := iI 0) hx hb dX10_inYear_19 (by decide) ?_
    exact rw_iret hx hb hr hlocks hP hS (⟨by (refine Eq.symm ?_; unfold pIn; (try simp only [Int.toNat_natCast]); repeat (first | rw [if_pos (by omega)] | rw [if_neg (by omega)])) <;> first | rfl | (exfalso; omega), (updZ M 0 1), by show 1 = _; (refine Eq.symm ?_; unfold pIn; (try simp only [Int.toNat_natCast]); repeat (first | rw [if_pos (by omega)] | rw [if_neg (by omega)])) <;> first | rfl | (exfalso; omega), by show M 5 = M 5; first | rfl | omega, by show M 9 = M 9; first | rfl | omega, rfl⟩) dX10_inYear_20
  · have cd_c_1 := of_decide_eq_true c_1
    refine lv_iconst (v := iI 0) hx hb dX10_inYear_8 (by decide) ?_
    refine lv_goto (tgt := 13) hx hb dX10_inYear_9 (by decide) ?_
    refine rw_V (As := [Value.int (iI 0)]) (rest := []) ⟨hx, hb, hml, hown, hts⟩ (c_X10_refused l g τ ma M 0 ⟨by decide, by decide⟩) gX10_inYear_X10_refused cd_X10_refused rfl rfl ⟨rfl, rfl⟩ ⟨Nat.le_of_ble_eq_true rfl, Nat.le_of_ble_eq_true rfl⟩ hK hP hD hS [0] (rfl) (by decide) 0 rfl rfl rfl rfl hl rfl (Nat.le_of_ble_eq_true rfl) dX10_inYear_13 ⟨Nat.le_of_ble_eq_true rfl, Nat.le_of_ble_eq_true rfl⟩ (fun v w h => by rw [h.2]; rfl) (fun v w1 H locs hZ hP hD hS => ?_)
    obtain ⟨rfl, rfl⟩ := hZ
    have hP : va_P g vwCl ([moO ma (updZ M 0 0), arC (ma 1) (τ 0) 291 (flR R)]) H := hP
    have hD : va_D A ([moO ma (updZ M 0 0), arC (ma 1) (τ 0) 291 (flR R)]) := hD
    refine tl_some ?_
    refine cv_i (y := iI 0) (congrArg iI (if_pos rfl)) ?_
    refine zi_if_eq (tgt := 21) hx hb ⟨by decide, by decide⟩ dX10_inYear_16 (by decide) (fun c_3 => ?_) (fun c_3 => ?_)
    · skip
      refine lv_iconst (v := iI 0) hx hb dX10_inYear_21 (by decide) ?_
      refine lv_istore_n (lv' := [(2, Value.int (iI 0)), (0, Value.ref (ma 0)), (1, Value.int (iI y1))]) hx hb dX10_inYear_22 rfl hl (by decide) rfl (fun ls hl => ?_)
      refine lv_iconst (v := iI 0) hx hb dX10_inYear_23 (by decide) ?_
      refine lv_istore_n (lv' := [(3, Value.int (iI 0)), (2, Value.int (iI 0)), (0, Value.ref (ma 0)), (1, Value.int (iI y1))]) hx hb dX10_inYear_24 rfl hl (by decide) rfl (fun ls hl => ?_)
      have h0_4 : rIn R y1 0 = 0 := rfl
      have hP : va_P g vwCl ([moO ma (updZ M 0 0), arC (ma 1) (τ 0) 291 (flR R)]) H := by first | exact hP | (exact hP)
      have hD : va_D A ([moO ma (updZ M 0 0), arC (ma 1) (τ 0) 291 (flR R)]) := by first | exact hD | (exact hD)
      refine lp_upX (fun i => [(3, Value.int (iI (i : Int))), (2, Value.int (iI (rIn R y1 i))), (0, Value.ref (ma 0)), (1, Value.int (iI y1))]) (fun i M_5 => [moO ma M_5, arC (ma 1) (τ 0) 291 (flR R)]) (fun i M_5 => AG (updZ M 0 0) M_5) ((R 10 0).toNat) (0) (updZ M 0 0) (by omega) hP hD hS (AG_r _) (lv_eq (lv_sub hl [0, 1, 2, 3] rfl) (by show [(3, Value.int (iI 0)), (2, Value.int (iI (rIn R y1 0))), (0, Value.ref (ma 0)), (1, Value.int (iI y1))] = [(3, Value.int (iI 0)), (2, Value.int (iI 0)), (0, Value.ref (ma 0)), (1, Value.int (iI y1))]; rw [h0_4])) (fun i h0_i hi_i M_5 hJ_i ih_25 H locs hP hD hS ls hl => ?_)
      have hfM_5_0 : M_5 0 = 0 := hJ_i 0 (by decide)
      have hfM_5_5 : M_5 5 = M 5 := hJ_i 5 (by decide)
      have hfM_5_9 : M_5 9 = M 9 := hJ_i 9 (by decide)
      have hfM_5_10 : M_5 10 = M 10 := hJ_i 10 (by decide)
      have hfM_5_11 : M_5 11 = M 11 := hJ_i 11 (by decide)
      have hfM_5_12 : M_5 12 = M 12 := hJ_i 12 (by decide)
      refine lv_iload_n hx hb dX10_inYear_25 rfl (lv_at hl 0 rfl) ?_
      refine lv_aload_n hx hb dX10_inYear_26 rfl (lv_at hl 2 rfl) ?_
      refine va_get (D := g) (ci := 10) (v := Value.ref (ma 1)) (C := RX10) (T := TX10) (N := 18) hx hb hts in_X10_inYear_X10 hown hK.1 hP 0 (rfl) rfl 1 (by decide) (hts _ (List.mem_of_getElem? (i := 1) rfl) : (Cond.fieldLink RX10 7 "CordSealsModel" "now" "[I").before _ s = true) (fun _ h9 => h9) rfl dX10_inYear_27 ?_
      refine lv_iconst (v := iI 2) hx hb dX10_inYear_30 (by decide) ?_
      refine zf_ald hx hb hK hP 1 (f := flR R) rfl (2) (rfl) (by omega) (by decide) (z := R 10 0) (fl_10) dX10_inYear_31 ?_
      have hb_6 := hB 10 0
      refine zi_icmp_ge (tgt := 70) hx hb ⟨by omega, by omega⟩ ⟨by omega, by omega⟩ dX10_inYear_32 (by decide) (fun c_7 => ?_) (fun c_7 => ?_)
      · have _ := c_7
        have h0_i : i = (R 10 0).toNat := by omega
        rw [h0_i] at hl
        refine lv_iload_n hx hb dX10_inYear_70 rfl (lv_at hl 1 rfl) ?_
        exact rw_iret hx hb hr hlocks hP hS (⟨by (refine Eq.symm ?_; unfold pIn; (try simp only [Int.toNat_natCast]); repeat (first | rw [if_pos (by omega)] | rw [if_neg (by omega)])) <;> first | rfl | (exfalso; omega), M_5, by show M_5 0 = _; rw [show M_5 0 = 0 from by omega]; (refine Eq.symm ?_; unfold pIn; (try simp only [Int.toNat_natCast]); repeat (first | rw [if_pos (by omega)] | rw [if_neg (by omega)])) <;> first | rfl | (exfalso; omega), by show M_5 5 = M 5; first | rfl | omega, by show M_5 9 = M 9; first | rfl | omega, rfl⟩) dX10_inYear_71
      · have _ := c_7
        have hl_i : i < (R 10 0).toNat := by omega
        refine lv_iload_n hx hb dX10_inYear_35 rfl (lv_at hl 1 rfl) ?_
        refine lv_aload_n hx hb dX10_inYear_36 rfl (lv_at hl 2 rfl) ?_
        refine lv_aload_n hx hb dX10_inYear_37 rfl (lv_at hl 2 rfl) ?_
        refine va_get (D := g) (ci := 10) (v := Value.ref (ma 1)) (C := RX10) (T := TX10) (N := 18) hx hb hts in_X10_inYear_X10 hown hK.1 hP 0 (rfl) rfl 1 (by decide) (hts _ (List.mem_of_getElem? (i := 1) rfl) : (Cond.fieldLink RX10 7 "CordSealsModel" "now" "[I").before _ s = true) (fun _ h9 => h9) rfl dX10_inYear_38 ?_
        refine lv_iload_n hx hb dX10_inYear_41 rfl (lv_at hl 0 rfl) ?_
        refine rw_V (As := [Value.ref (ma 1), Value.int (iI (i : Int))]) (rest := [Value.int (iI (rIn R y1 i))]) ⟨hx, hb, hml, hown, hts⟩ (c_X10_fake l g τ ma M_5 (ma 1) R hI i (by omega)) gX10_inYear_X10_fake cd_X10_fake rfl rfl ⟨rfl, rfl⟩ ⟨Nat.le_of_ble_eq_true rfl, Nat.le_of_ble_eq_true rfl⟩ hK hP hD hS [0, 1] (rfl) (by decide) 0 rfl rfl rfl rfl hl rfl (Nat.le_of_ble_eq_true rfl) dX10_inYear_42 ⟨Nat.le_of_ble_eq_true rfl, Nat.le_of_ble_eq_true rfl⟩ (fun v w h => by obtain ⟨-, M9, -, rfl⟩ := h; rfl) (fun v w1 H locs hZ hP hD hS => ?_)
        obtain ⟨rfl, M_8, hgM_8, rfl⟩ := hZ
        have hP : va_P g vwCl ([moO ma M_8, arC (ma 1) (τ 0) 291 (flR R)]) H := hP
        have hD : va_D A ([moO ma M_8, arC (ma 1) (τ 0) 291 (flR R)]) := hD
        have hfM_8_0 : M_8 0 = M_5 0 := hgM_8 0 (by decide)
        have hfM_8_5 : M_8 5 = M_5 5 := hgM_8 5 (by decide)
        have hfM_8_9 : M_8 9 = M_5 9 := hgM_8 9 (by decide)
        have hfM_8_10 : M_8 10 = M_5 10 := hgM_8 10 (by decide)
        have hfM_8_11 : M_8 11 = M_5 11 := hgM_8 11 (by decide)
        have hfM_8_12 : M_8 12 = M_5 12 := hgM_8 12 (by decide)
        have := rFk_b R i
        refine tl_some ?_
        refine zi_if_ne (tgt := 61) hx hb ⟨by omega, by omega⟩ dX10_inYear_45 (by decide) (fun c_9 => ?_) (fun c_9 => ?_)
        · have _ := c_9
          refine lv_iconst (v := iI 0) hx hb dX10_inYear_61 (by decide) ?_
          refine zi_add hx hb dX10_inYear_62 ?_
          refine lv_istore_n (lv' := [(2, Value.int (iI ((rIn R y1 i) + 0))), (3, Value.int (iI (i : Int))), (0, Value.ref (ma 0)), (1, Value.int (iI y1))]) hx hb dX10_inYear_63 rfl hl (by decide) rfl (fun ls hl => ?_)
          refine zi_inc (v := ((i + 1 : Nat) : Int)) (lv' := [(3, Value.int (iI ((i + 1 : Nat) : Int))), (2, Value.int (iI ((rIn R y1 i) + 0))), (0, Value.ref (ma 0)), (1, Value.int (iI y1))]) hx hb dX10_inYear_64 hl (k := 1) rfl (by omega) (by decide) rfl (fun ls hl => ?_)
          refine lv_goto (tgt := 25) hx hb dX10_inYear_67 (by decide) ?_
          have hb_10 : (((i + 1) : Nat) : Int) = ((i + 1 : Nat) : Int) := by first | rfl | omega | (simp [c_1, c_7, c_9]; done)
          have hb_11 : rIn R y1 (i + 1) = (rIn R y1 i) + 0 := by unfold rIn; first | (rw [cnt_t (by rw [decide_eq_true (by omega), show rCan R i y1 = true from by assumption]; rfl)]) | (rw [cnt_f (by rw [show rCan R i y1 = false from by assumption, Bool.and_false])]; omega) | (rw [cnt_f (by rw [decide_eq_false (by omega), Bool.false_and])]; omega)
          exact ih_25 hl_i (M_8) (AG_t (hJ_i) hgM_8) _ _ _ hP hD hS (lv_eq (lv_sub hl [0, 1, 2, 3] rfl) (by show [(3, Value.int (iI (((i + 1) : Nat) : Int))), (2, Value.int (iI (rIn R y1 (i + 1)))), (0, Value.ref (ma 0)), (1, Value.int (iI y1))] = [(3, Value.int (iI ((i + 1 : Nat) : Int))), (2, Value.int (iI ((rIn R y1 i) + 0))), (0, Value.ref (ma 0)), (1, Value.int (iI y1))]; rw [hb_10, hb_11]))
        · have _ := c_9
          refine lv_aload_n hx hb dX10_inYear_48 rfl (lv_at hl 2 rfl) ?_
          refine lv_iload_n hx hb dX10_inYear_49 rfl (lv_at hl 0 rfl) ?_
          refine lv_iload_n hx hb dX10_inYear_50 rfl (lv_at hl 3 rfl) ?_
          refine ro_V (As := [Value.int (iI (i : Int)), Value.int (iI y1)]) (rest := [Value.int (iI (rIn R y1 i))]) (v := some (Value.int (iI (zB (rCan R i y1))))) ⟨hx, hb, hml, hown, hts⟩ (c_X10_can l g τ ma M_8 R hI i (by omega) y1 ⟨by omega, by omega⟩) gX10_inYear_X10_can cd_X10_can rfl rfl ⟨rfl, rfl⟩ ⟨Nat.le_of_ble_eq_true rfl, Nat.le_of_ble_eq_true rfl⟩ hK (cut_P (is := [0, 1]) hP rfl) 0 rfl rfl rfl rfl hl rfl (Nat.le_of_ble_eq_true rfl) dX10_inYear_51 ⟨Nat.le_of_ble_eq_true rfl, Nat.le_of_ble_eq_true rfl⟩ ?_
          refine tl_some ?_
          refine zb_if_eq (tgt := 61) hx hb dX10_inYear_54 (by decide) (fun c_12 => ?_) (fun c_12 => ?_)
          · have _ := c_12
            refine lv_iconst (v := iI 0) hx hb dX10_inYear_61 (by decide) ?_
            refine zi_add hx hb dX10_inYear_62 ?_
            refine lv_istore_n (lv' := [(2, Value.int (iI ((rIn R y1 i) + 0))), (3, Value.int (iI (i : Int))), (0, Value.ref (ma 0)), (1, Value.int (iI y1))]) hx hb dX10_inYear_63 rfl hl (by decide) rfl (fun ls hl => ?_)
            refine zi_inc (v := ((i + 1 : Nat) : Int)) (lv' := [(3, Value.int (iI ((i + 1 : Nat) : Int))), (2, Value.int (iI ((rIn R y1 i) + 0))), (0, Value.ref (ma 0)), (1, Value.int (iI y1))]) hx hb dX10_inYear_64 hl (k := 1) rfl (by omega) (by decide) rfl (fun ls hl => ?_)
            refine lv_goto (tgt := 25) hx hb dX10_inYear_67 (by decide) ?_
            have hb_13 : (((i + 1) : Nat) : Int) = ((i + 1 : Nat) : Int) := by first | rfl | omega | (simp [c_1, c_7, c_9, c_12]; done)
            have hb_14 : rIn R y1 (i + 1) = (rIn R y1 i) + 0 := by unfold rIn; first | (rw [cnt_t (by rw [decide_eq_true (by omega), show rCan R i y1 = true from by assumption]; rfl)]) | (rw [cnt_f (by rw [show rCan R i y1 = false from by assumption, Bool.and_false])]; omega) | (rw [cnt_f (by rw [decide_eq_false (by omega), Bool.false_and])]; omega)
            exact ih_25 hl_i (M_8) (AG_t (hJ_i) hgM_8) _ _ _ hP hD hS (lv_eq (lv_sub hl [0, 1, 2, 3] rfl) (by show [(3, Value.int (iI (((i + 1) : Nat) : Int))), (2, Value.int (iI (rIn R y1 (i + 1)))), (0, Value.ref (ma 0)), (1, Value.int (iI y1))] = [(3, Value.int (iI ((i + 1 : Nat) : Int))), (2, Value.int (iI ((rIn R y1 i) + 0))), (0, Value.ref (ma 0)), (1, Value.int (iI y1))]; rw [hb_13, hb_14]))
          · have _ := c_12
            refine lv_iconst (v := iI 1) hx hb dX10_inYear_57 (by decide) ?_
            refine lv_goto (tgt := 62) hx hb dX10_inYear_58 (by decide) ?_
            refine zi_add hx hb dX10_inYear_62 ?_
            refine lv_istore_n (lv' := [(2, Value.int (iI ((rIn R y1 i) + 1))), (3, Value.int (iI (i : Int))), (0, Value.ref (ma 0)), (1, Value.int (iI y1))]) hx hb dX10_inYear_63 rfl hl (by decide) rfl (fun ls hl => ?_)
            refine zi_inc (v := ((i + 1 : Nat) : Int)) (lv' := [(3, Value.int (iI ((i + 1 : Nat) : Int))), (2, Value.int (iI ((rIn R y1 i) + 1))), (0, Value.ref (ma 0)), (1, Value.int (iI y1))]) hx hb dX10_inYear_64 hl (k := 1) rfl (by omega) (by decide) rfl (fun ls hl => ?_)
            refine lv_goto (tgt := 25) hx hb dX10_inYear_67 (by decide) ?_
            have hb_15 : (((i + 1) : Nat) : Int) = ((i + 1 : Nat) : Int) := by first | rfl | omega | (simp [c_1, c_7, c_9, c_12]; done)
            have hb_16 : rIn R y1 (i + 1) = (rIn R y1 i) + 1 := by unfold rIn; first | (rw [cnt_t (by rw [decide_eq_true (by omega), show rCan R i y1 = true from by assumption]; rfl)]) | (rw [cnt_f (by rw [show rCan R i y1 = false from by assumption, Bool.and_false])]; omega) | (rw [cnt_f (by rw [decide_eq_false (by omega), Bool.false_and])]; omega)
            exact ih_25 hl_i (M_8) (AG_t (hJ_i) hgM_8) _ _ _ hP hD hS (lv_eq (lv_sub hl [0, 1, 2, 3] rfl) (by show [(3, Value.int (iI (((i + 1) : Nat) : Int))), (2, Value.int (iI (rIn R y1 (i + 1)))), (0, Value.ref (ma 0)), (1, Value.int (iI y1))] = [(3, Value.int (iI ((i + 1 : Nat) : Int))), (2, Value.int (iI ((rIn R y1 i) + 1))), (0, Value.ref (ma 0)), (1, Value.int (iI y1))]; rw [hb_15, hb_16]))
    · exact absurd c_3 (by decide)
