/-! the law: its commands -/
def l64 (a b : Int) : Int64 := ((iI a).toInt64 <<< ((iI 32).toInt64 &&& 63)) ||| ((iI b).toInt64 &&& 4294967295)
theorem l64_r (v : Int64) : rngl v.toInt := ⟨Int64.le_toInt v, Int64.toInt_lt v⟩
theorem l64_eq (a b : Int) : ((iI a).toInt64 <<< ((iI 32).toInt64 &&& 63)) ||| ((iI b).toInt64 &&& 4294967295) = iL (l64 a b).toInt := (Int64.ofInt_toInt (l64 a b)).symm
/-- where every command ends: the loop's step -/
def lwK (p : Program) (l : Launch) (e : Env) (s : State) (m : MethodId) (below : List Frame) (meth : Method) (c : Code) (cells slots : Nat) (QQ : State → Prop) (g : va_G) (τ : Nat → ClassId) (A : Nat → Prop) (x mm oa b i : Nat) : Prop := ∀ (z : Int64) (w wm : va_W) (H : Heap) (locs : List Loc) (ls : Array Slot), JW τ x mm w wm → va_P g vwCl ([outC oa z τ] ++ (w ++ wm)) H → va_D A ([outC oa z τ] ++ (w ++ wm)) → va_S A s.heap H locs → lv_has ls 7 [(4, .int (iI (i : Int))), (3, .ref oa), (2, .ref mm), (1, .ref x), (0, .ref b)] → W p l e room_1 s m #[Value.ref b] below meth c H locs (cells + 1) (slots + 6) QQ (F0 m 2441 ls [])
section LAWC
variable {p : Program} {l : Launch} {e : Env} {s : State} {m : MethodId} {below : List Frame} {meth : Method} {c : Code} {H : Heap} {locs : List Loc} {cells slots : Nat} {QQ : State → Prop} {b L : Nat} {xs : Nat → Int32} {g : va_G} {τ : Nat → ClassId} {A : Nat → Prop} {ls : Array Slot} {x mm oa : Nat} {z : Int64} {w wm : va_W}
theorem lw_Cb {k val r : Int} {ls : Array Slot} (C0 : LC p s m meth c b L xs g τ A) (hm : MT mm k wm) (hz : k = 0 → z = (iI val).toInt64) (hr : k = 0 → r = val) (hk : 0 ≤ k ∧ k ≤ 3) (hbv : k = 0 → ∃ b : Bool, val = zB b) (hP : va_P g vwCl ([outC oa z τ] ++ (w ++ wm)) H) {i : Nat} (hl : lv_has ls 7 [(5, .int (iI k)), (4, .int (iI (i : Int))), (3, .ref oa), (2, .ref mm), (1, .ref x), (0, .ref b)]) (hc : cells ≤ 601024 ∧ slots ≤ 7293034)
    (kk : ∀ ls1 : Array Slot, lv_has ls1 7 [(6, .int (iI r)), (5, .int (iI k)), (4, .int (iI (i : Int))), (3, .ref oa), (2, .ref mm), (1, .ref x), (0, .ref b)] → W p l e room_1 s m #[Value.ref b] below meth c H locs cells slots QQ (F0 m 2441 ls1 [])) : W p l e room_1 s m #[Value.ref b] below meth c H locs cells slots QQ (F0 m 753 ls [.int (iI r)]) := by
  have hx := C0.1.1
  have hb := C0.1.2.1
  refine lv_istore hx hb dL_law_753 hl (by decide) rfl (fun ls1 hl1 => ?_)
  refine lv_aload_n hx hb dL_law_755 rfl (lv_at hl1 4 rfl) ?_
  refine lw_T C0 hm hP hl1 dL_law_756 hc ?_ (Nat.le_of_ble_eq_true rfl)
  refine lv_iload hx hb dL_law_759 (lv_at hl1 1 rfl) ?_
  refine lv_icmp_eq (tgt := 766) hx hb dL_law_761 (by decide) (fun _ => ?_) (fun q => absurd rfl q)
  refine lv_iload hx hb dL_law_766 (lv_at hl1 1 rfl) ?_
  refine zi_if_ne (tgt := 790) hx hb ⟨by omega, by omega⟩ dL_law_768 (by decide) (fun _ => ?_) (fun q => ?_)
  · refine lv_goto (tgt := 2441) hx hb dL_law_790 (by decide) ?_
    exact kk ls1 hl1
  · have hz := hz q
    obtain ⟨bb, hbb⟩ := hbv q
    have hr2 : r = zB bb := (hr q).trans hbb
    refine lv_aload_n hx hb dL_law_771 rfl (lv_at hl1 3 rfl) ?_
    refine lv_iconst (v := iI 0) hx hb dL_law_772 rfl ?_
    refine va_lald (tys := tyL τ) hx hb C0.2.2.2.1.1 hP 0 5 rfl rfl (by show ¬ (iI 0 < 0 ∨ 1 ≤ (iI 0).toNatClampNeg); decide) dL_law_773 ?_
    refine lv_iload hx hb dL_law_774 (lv_at hl1 0 rfl) ?_
    have e1 : (if (iI 0).toNatClampNeg = 0 then z else 0) = (iI (zB bb)).toInt64 := by
      rw [if_pos (by decide), hz, hbb]
    cases bb
    · refine zi_if_eq (tgt := 783) hx hb (a := r) ⟨by rw [hr2]; decide, by rw [hr2]; decide⟩ dL_law_776 (by decide) (fun _ => ?_) (fun q => absurd hr2 q)
      refine lv_lconst (v := (iI (zB false)).toInt64) hx hb dL_law_783 (by decide) ?_
      refine W.lcmp hx hb dL_law_784 ?_
      refine cv_i (y := iI 0) (by
        show lg_cmp (if (iI 0).toNatClampNeg = 0 then z else 0) (iI (zB false)).toInt64 = iI 0
        rw [e1, lg_same]) ?_
      refine zi_if_eq (tgt := 790) hx hb ⟨by decide, by decide⟩ dL_law_785 (by decide) (fun _ => ?_) (fun q => absurd rfl q)
      refine lv_goto (tgt := 2441) hx hb dL_law_790 (by decide) ?_
      exact kk ls1 hl1
    · refine zi_if_eq (tgt := 783) hx hb (a := r) ⟨by rw [hr2]; decide, by rw [hr2]; decide⟩ dL_law_776 (by decide) (fun q => absurd (hr2.symm.trans q) (by decide)) (fun _ => ?_)
      refine lv_lconst (v := (iI (zB true)).toInt64) hx hb dL_law_779 (by decide) ?_
      refine lv_goto (tgt := 784) hx hb dL_law_780 (by decide) ?_
      refine W.lcmp hx hb dL_law_784 ?_
      refine cv_i (y := iI 0) (by
        show lg_cmp (if (iI 0).toNatClampNeg = 0 then z else 0) (iI (zB true)).toInt64 = iI 0
        rw [e1, lg_same]) ?_
      refine zi_if_eq (tgt := 790) hx hb ⟨by decide, by decide⟩ dL_law_785 (by decide) (fun _ => ?_) (fun q => absurd rfl q)
      refine lv_goto (tgt := 2441) hx hb dL_law_790 (by decide) ?_
      exact kk ls1 hl1
set_option maxRecDepth 100000 in
theorem lc_append (hst : l.stackTraces = false) (C0 : LC p s m meth c b L xs g τ A) {i : Nat} (hi : i + 6 ≤ L) (hj : JW τ x mm w wm) (hP : va_P g vwCl ([outC oa z τ] ++ (w ++ wm)) H) (hD : va_D A ([outC oa z τ] ++ (w ++ wm))) (hS : va_S A s.heap H locs) (hl : lv_has ls 7 [(4, .int (iI (i : Int))), (3, .ref oa), (2, .ref mm), (1, .ref x), (0, .ref b)]) (hc : cells + 1 ≤ 601024 ∧ slots + 6 ≤ 7293034) (kk : lwK p l e s m below meth c cells slots QQ g τ A x mm oa b i) : W p l e room_1 s m #[Value.ref b] below meth c H locs cells slots QQ (F0 m 196 ls []) := by
  have hx := C0.1.1
  have hb := C0.1.2.1
  obtain ⟨Q, n, B, V, K, t, S, k0, hcw, hmw⟩ := hj
  obtain ⟨w0, hp0, hM⟩ := f_append l hst g τ x oa z hcw (yI xs (i + 1)) (yI_r xs (i + 1))
  have hN := h_append l g τ hmw (yI xs (i + 1)) (yI_r xs (i + 1))
  refine lv_aload_n hx hb dL_law_196 rfl (lv_at hl 3 rfl) ?_
  refine la_arg (j := 1) C0 (by omega) rfl 4 0 hl rfl rfl hS dL_law_197 dL_law_198 dL_law_200 dL_law_201 dL_law_202 ?_
  refine lv_aload_n hx hb dL_law_203 rfl (lv_at hl 1 rfl) ?_
  refine lw_A (P := W3 (kAp (yI xs (i + 1)) t) (Wn w0 (kAp (yI xs (i + 1)) t) (CW τ x Q n B V K (t + 1) (updZ S t.toNat (yI xs (i + 1)))) (CW τ x Q n B V K t S))) C0 hM hp0 (fun w1 h => h.2.1) gl_L_append cd_L_append rfl ⟨rfl, rfl⟩ ⟨Nat.le_of_ble_eq_true rfl, Nat.le_of_ble_eq_true rfl⟩ hP hD hS rfl hl rfl dL_law_204 dL_law_207 hc rfl (fun z w9 H locs ls hz hw9 hP hD hS hl => ?_)
  refine lv_aload_n hx hb dL_law_209 rfl (lv_at hl 3 rfl) ?_
  refine la_arg (j := 1) C0 (by omega) rfl 5 1 hl rfl rfl hS dL_law_210 dL_law_211 dL_law_213 dL_law_214 dL_law_215 ?_
  refine lw_M (P := fun _ => True) (rest := []) C0 hmw hN gl_X10_append cd_X10_append rfl rfl ⟨rfl, rfl⟩ ⟨Nat.le_of_ble_eq_true rfl, Nat.le_of_ble_eq_true rfl⟩ hP hD hS rfl hl rfl (Nat.le_of_ble_eq_true rfl) dL_law_216 hc (fun r wm9 H locs hr hm0 hm1 hmt hP hD hS => ?_)
  refine lw_C (off := 2192) C0 ⟨dL_law_219, dL_law_221, dL_law_222, dL_law_225, dL_law_227, dL_law_232, dL_law_234, dL_law_237, dL_law_238, dL_law_239, dL_law_240, dL_law_242, dL_law_243, dL_law_244, dL_law_249, by decide⟩ hmt hz hr hw9.1 hP hl rfl rfl rfl rfl rfl hc (fun ls hl => ?_)
  have hl := lv_sub hl [2, 3, 4, 5, 6] rfl
  refine kk z w9 wm9 H locs ls ?_ hP hD hS hl
  by_cases hk : kAp (yI xs (i + 1)) t = 0
  · exact ⟨_, _, _, _, _, _, _, _, hw9.2.2.1 hk, hm0 hk⟩
  · exact ⟨_, _, _, _, _, _, _, _, hw9.2.2.2 hk, hm1 hk⟩

set_option maxRecDepth 100000 in
theorem lc_clearText (hst : l.stackTraces = false) (C0 : LC p s m meth c b L xs g τ A) {i : Nat} (hi : i + 6 ≤ L) (hj : JW τ x mm w wm) (hP : va_P g vwCl ([outC oa z τ] ++ (w ++ wm)) H) (hD : va_D A ([outC oa z τ] ++ (w ++ wm))) (hS : va_S A s.heap H locs) (hl : lv_has ls 7 [(4, .int (iI (i : Int))), (3, .ref oa), (2, .ref mm), (1, .ref x), (0, .ref b)]) (hc : cells + 1 ≤ 601024 ∧ slots + 6 ≤ 7293034) (kk : lwK p l e s m below meth c cells slots QQ g τ A x mm oa b i) : W p l e room_1 s m #[Value.ref b] below meth c H locs cells slots QQ (F0 m 252 ls []) := by
  have hx := C0.1.1
  have hb := C0.1.2.1
  obtain ⟨Q, n, B, V, K, t, S, k0, hcw, hmw⟩ := hj
  have hN := h_clearText l g τ hmw
  obtain ⟨sl, sv, ta, aj, me, ad, bd, R, T, J, o, X, VV, WW, hC, hp⟩ := hcw
  have hM := cct (sl := sl) (sv := sv) (ta := ta) (aj := aj) (me := me) (ad := ad) (bd := bd) (R := R) (T := T) (J := J) (n := n) (o := o) (X := X) (S := S) (V := V) (VV := VV) (WW := WW) hC (c_X9_clearText l g τ x sl sv ta aj me ad bd X S hC.2.2.2.1 hC.2.2.1.1)
  obtain ⟨fs, hfs⟩ := CW_0 (τ := τ) (x := x) (sl := sl) (sv := sv) (ta := ta) (aj := aj) (me := me) (ad := ad) (bd := bd) (R := R) (T := T) (J := J) (n := n) (o := o) (X := X) (S := S) (V := V) (VV := VV) (WW := WW)
  refine lv_aload_n hx hb dL_law_252 rfl (lv_at hl 3 rfl) ?_
  refine lw_V C0 hM hfs hp gl_X9_clearText cd_X9_clearText rfl rfl ⟨rfl, rfl⟩ ⟨Nat.le_of_ble_eq_true rfl, Nat.le_of_ble_eq_true rfl⟩ hP hD hS hl dL_law_253 ⟨by omega, by omega⟩ (fun w9 H locs hw9 hP hD hS => ?_)
  refine lv_aload_n hx hb dL_law_256 rfl (lv_at hl 2 rfl) ?_
  refine lw_M (P := fun _ => True) (As := []) (rest := [.int (iI t)]) C0 hmw hN gl_X10_clearText cd_X10_clearText rfl rfl ⟨rfl, rfl⟩ ⟨Nat.le_of_ble_eq_true rfl, Nat.le_of_ble_eq_true rfl⟩ hP hD hS rfl hl rfl (Nat.le_of_ble_eq_true rfl) dL_law_257 ⟨by omega, by omega⟩ (fun r wm9 H locs hr hm0 hm1 hmt hP hD hS => ?_)
  rw [hr rfl]
  refine lv_icmp_eq (tgt := 2441) hx hb dL_law_260 (by decide) (fun _ => ?_) (fun q => absurd rfl q)
  exact W.widen (Nat.le_succ _) (Nat.le_add_right _ 6) (kk z w9 wm9 H locs ls ⟨_, _, _, _, _, _, _, _, hw9, hm0 rfl⟩ hP hD hS hl)

set_option maxRecDepth 100000 in
theorem lc_errorPosition (hst : l.stackTraces = false) (C0 : LC p s m meth c b L xs g τ A) {i : Nat} (hi : i + 6 ≤ L) (hj : JW τ x mm w wm) (hP : va_P g vwCl ([outC oa z τ] ++ (w ++ wm)) H) (hD : va_D A ([outC oa z τ] ++ (w ++ wm))) (hS : va_S A s.heap H locs) (hl : lv_has ls 7 [(4, .int (iI (i : Int))), (3, .ref oa), (2, .ref mm), (1, .ref x), (0, .ref b)]) (hc : cells + 1 ≤ 601024 ∧ slots + 6 ≤ 7293034) (kk : lwK p l e s m below meth c cells slots QQ g τ A x mm oa b i) : W p l e room_1 s m #[Value.ref b] below meth c H locs cells slots QQ (F0 m 265 ls []) := by
  have hx := C0.1.1
  have hb := C0.1.2.1
  obtain ⟨Q, n, B, V, K, t, S, k0, hcw, hmw⟩ := hj
  have hN := h_errorPosition l g τ hmw
  obtain ⟨sl, sv, ta, aj, me, ad, bd, R, T, J, o, X, VV, WW, hC, hp⟩ := hcw
  have hM := cep (sl := sl) (sv := sv) (ta := ta) (aj := aj) (me := me) (ad := ad) (bd := bd) (R := R) (T := T) (J := J) (n := n) (o := o) (X := X) (S := S) (V := V) (VV := VV) (WW := WW) hC (c_X9_errorPosition l g τ x sl sv ta aj me ad bd X S hC.2.2.2.1 hC.2.2.1.1)
  obtain ⟨fs, hfs⟩ := CW_0 (τ := τ) (x := x) (sl := sl) (sv := sv) (ta := ta) (aj := aj) (me := me) (ad := ad) (bd := bd) (R := R) (T := T) (J := J) (n := n) (o := o) (X := X) (S := S) (V := V) (VV := VV) (WW := WW)
  refine lv_aload_n hx hb dL_law_265 rfl (lv_at hl 3 rfl) ?_
  refine lw_V C0 hM hfs hp gl_X9_errorPosition cd_X9_errorPosition rfl rfl ⟨rfl, rfl⟩ ⟨Nat.le_of_ble_eq_true rfl, Nat.le_of_ble_eq_true rfl⟩ hP hD hS hl dL_law_266 ⟨by omega, by omega⟩ (fun w9 H locs hw9 hP hD hS => ?_)
  refine lv_aload_n hx hb dL_law_269 rfl (lv_at hl 2 rfl) ?_
  refine lw_M (P := fun _ => True) (As := []) (rest := [.int (iI (uErr S t))]) C0 hmw hN gl_X10_errorPosition cd_X10_errorPosition rfl rfl ⟨rfl, rfl⟩ ⟨Nat.le_of_ble_eq_true rfl, Nat.le_of_ble_eq_true rfl⟩ hP hD hS rfl hl rfl (Nat.le_of_ble_eq_true rfl) dL_law_270 ⟨by omega, by omega⟩ (fun r wm9 H locs hr hm0 hm1 hmt hP hD hS => ?_)
  rw [hr rfl]
  refine lv_icmp_eq (tgt := 2441) hx hb dL_law_273 (by decide) (fun _ => ?_) (fun q => absurd rfl q)
  exact W.widen (Nat.le_succ _) (Nat.le_add_right _ 6) (kk z w9 wm9 H locs ls ⟨_, _, _, _, _, _, _, _, hw9, hm0 rfl⟩ hP hD hS hl)

set_option maxRecDepth 100000 in
theorem lc_load (hst : l.stackTraces = false) (C0 : LC p s m meth c b L xs g τ A) {i : Nat} (hi : i + 6 ≤ L) (hj : JW τ x mm w wm) (hP : va_P g vwCl ([outC oa z τ] ++ (w ++ wm)) H) (hD : va_D A ([outC oa z τ] ++ (w ++ wm))) (hS : va_S A s.heap H locs) (hl : lv_has ls 7 [(4, .int (iI (i : Int))), (3, .ref oa), (2, .ref mm), (1, .ref x), (0, .ref b)]) (hc : cells + 1 ≤ 601024 ∧ slots + 6 ≤ 7293034) (kk : lwK p l e s m below meth c cells slots QQ g τ A x mm oa b i) : W p l e room_1 s m #[Value.ref b] below meth c H locs cells slots QQ (F0 m 278 ls []) := by
  have hx := C0.1.1
  have hb := C0.1.2.1
  obtain ⟨Q, n, B, V, K, t, S, k0, hcw, hmw⟩ := hj
  obtain ⟨w0, hp0, hM⟩ := f_load l hst g τ x oa z hcw 
  have hN := h_load l g τ hmw 
  refine lv_aload_n hx hb dL_law_278 rfl (lv_at hl 3 rfl) ?_
  refine lv_aload_n hx hb dL_law_279 rfl (lv_at hl 1 rfl) ?_
  refine lw_A (P := W3 (kLd S t) (Wn w0 (kLd S t) (CW τ x (uAll S t).2.2.2 0 B (updZ (updZ V 0 0) 1 0) K t S) (CW τ x Q n B V K t S))) C0 hM hp0 (fun w1 h => h.2.1) gl_L_load cd_L_load rfl ⟨rfl, rfl⟩ ⟨Nat.le_of_ble_eq_true rfl, Nat.le_of_ble_eq_true rfl⟩ hP hD hS rfl hl rfl dL_law_280 dL_law_283 hc rfl (fun z w9 H locs ls hz hw9 hP hD hS hl => ?_)
  refine lv_aload_n hx hb dL_law_285 rfl (lv_at hl 3 rfl) ?_
  refine lw_M (P := fun _ => True) (rest := []) C0 hmw hN gl_X10_load cd_X10_load rfl rfl ⟨rfl, rfl⟩ ⟨Nat.le_of_ble_eq_true rfl, Nat.le_of_ble_eq_true rfl⟩ hP hD hS rfl hl rfl (Nat.le_of_ble_eq_true rfl) dL_law_286 hc (fun r wm9 H locs hr hm0 hm1 hmt hP hD hS => ?_)
  refine lw_C (off := 2122) C0 ⟨dL_law_289, dL_law_291, dL_law_292, dL_law_295, dL_law_297, dL_law_302, dL_law_304, dL_law_307, dL_law_308, dL_law_309, dL_law_310, dL_law_312, dL_law_313, dL_law_314, dL_law_319, by decide⟩ hmt hz hr hw9.1 hP hl rfl rfl rfl rfl rfl hc (fun ls hl => ?_)
  have hl := lv_sub hl [2, 3, 4, 5, 6] rfl
  refine kk z w9 wm9 H locs ls ?_ hP hD hS hl
  by_cases hk : kLd S t = 0
  · exact ⟨_, _, _, _, _, _, _, _, hw9.2.2.1 hk, hm0 hk⟩
  · exact ⟨_, _, _, _, _, _, _, _, hw9.2.2.2 hk, hm1 hk⟩

set_option maxRecDepth 100000 in
theorem lc_about (hst : l.stackTraces = false) (C0 : LC p s m meth c b L xs g τ A) {i : Nat} (hi : i + 6 ≤ L) (hj : JW τ x mm w wm) (hP : va_P g vwCl ([outC oa z τ] ++ (w ++ wm)) H) (hD : va_D A ([outC oa z τ] ++ (w ++ wm))) (hS : va_S A s.heap H locs) (hl : lv_has ls 7 [(4, .int (iI (i : Int))), (3, .ref oa), (2, .ref mm), (1, .ref x), (0, .ref b)]) (hc : cells + 1 ≤ 601024 ∧ slots + 6 ≤ 7293034) (kk : lwK p l e s m below meth c cells slots QQ g τ A x mm oa b i) : W p l e room_1 s m #[Value.ref b] below meth c H locs cells slots QQ (F0 m 322 ls []) := by
  have hx := C0.1.1
  have hb := C0.1.2.1
  obtain ⟨Q, n, B, V, K, t, S, k0, hcw, hmw⟩ := hj
  obtain ⟨w0, hp0, hM⟩ := f_about l hst g τ x oa z hcw (yI xs (i + 1)) (yI_r xs (i + 1))
  have hN := h_about l g τ hmw (yI xs (i + 1)) (yI_r xs (i + 1))
  refine lv_aload_n hx hb dL_law_322 rfl (lv_at hl 3 rfl) ?_
  refine la_arg (j := 1) C0 (by omega) rfl 4 0 hl rfl rfl hS dL_law_323 dL_law_324 dL_law_326 dL_law_327 dL_law_328 ?_
  refine lv_aload_n hx hb dL_law_329 rfl (lv_at hl 1 rfl) ?_
  refine lw_A (P := W3 ((pAbout Q (yI xs (i + 1))).1) (Wn w0 ((pAbout Q (yI xs (i + 1))).1) (CW τ x Q n B V K t S) (CW τ x Q n B V K t S))) C0 hM hp0 (fun w1 h => h.2.1) gl_L_about cd_L_about rfl ⟨rfl, rfl⟩ ⟨Nat.le_of_ble_eq_true rfl, Nat.le_of_ble_eq_true rfl⟩ hP hD hS rfl hl rfl dL_law_330 dL_law_333 hc rfl (fun z w9 H locs ls hz hw9 hP hD hS hl => ?_)
  refine lv_aload_n hx hb dL_law_335 rfl (lv_at hl 3 rfl) ?_
  refine la_arg (j := 1) C0 (by omega) rfl 5 1 hl rfl rfl hS dL_law_336 dL_law_337 dL_law_339 dL_law_340 dL_law_341 ?_
  refine lw_M (P := fun _ => True) (rest := []) C0 hmw hN gl_X10_about cd_X10_about rfl rfl ⟨rfl, rfl⟩ ⟨Nat.le_of_ble_eq_true rfl, Nat.le_of_ble_eq_true rfl⟩ hP hD hS rfl hl rfl (Nat.le_of_ble_eq_true rfl) dL_law_342 hc (fun r wm9 H locs hr hm0 hm1 hmt hP hD hS => ?_)
  refine lw_C (off := 2066) C0 ⟨dL_law_345, dL_law_347, dL_law_348, dL_law_351, dL_law_353, dL_law_358, dL_law_360, dL_law_363, dL_law_364, dL_law_365, dL_law_366, dL_law_368, dL_law_369, dL_law_370, dL_law_375, by decide⟩ hmt hz hr hw9.1 hP hl rfl rfl rfl rfl rfl hc (fun ls hl => ?_)
  have hl := lv_sub hl [2, 3, 4, 5, 6] rfl
  refine kk z w9 wm9 H locs ls ?_ hP hD hS hl
  by_cases hk : (pAbout Q (yI xs (i + 1))).1 = 0
  · exact ⟨_, _, _, _, _, _, _, _, hw9.2.2.1 hk, hm0 hk⟩
  · exact ⟨_, _, _, _, _, _, _, _, hw9.2.2.2 hk, hm1 hk⟩

set_option maxRecDepth 100000 in
theorem lc_ofReign (hst : l.stackTraces = false) (C0 : LC p s m meth c b L xs g τ A) {i : Nat} (hi : i + 6 ≤ L) (hj : JW τ x mm w wm) (hP : va_P g vwCl ([outC oa z τ] ++ (w ++ wm)) H) (hD : va_D A ([outC oa z τ] ++ (w ++ wm))) (hS : va_S A s.heap H locs) (hl : lv_has ls 7 [(4, .int (iI (i : Int))), (3, .ref oa), (2, .ref mm), (1, .ref x), (0, .ref b)]) (hc : cells + 1 ≤ 601024 ∧ slots + 6 ≤ 7293034) (kk : lwK p l e s m below meth c cells slots QQ g τ A x mm oa b i) : W p l e room_1 s m #[Value.ref b] below meth c H locs cells slots QQ (F0 m 378 ls []) := by
  have hx := C0.1.1
  have hb := C0.1.2.1
  obtain ⟨Q, n, B, V, K, t, S, k0, hcw, hmw⟩ := hj
  obtain ⟨w0, hp0, hM⟩ := f_ofReign l hst g τ x oa z hcw (yI xs (i + 1)) (yI_r xs (i + 1)) (yI xs (i + 2)) (yI_r xs (i + 2))
  have hN := h_ofReign l g τ hmw (yI xs (i + 1)) (yI_r xs (i + 1)) (yI xs (i + 2)) (yI_r xs (i + 2))
  refine lv_aload_n hx hb dL_law_378 rfl (lv_at hl 3 rfl) ?_
  refine la_arg (j := 1) C0 (by omega) rfl 4 0 hl rfl rfl hS dL_law_379 dL_law_380 dL_law_382 dL_law_383 dL_law_384 ?_
  refine la_arg (j := 2) C0 (by omega) rfl 4 0 hl rfl rfl hS dL_law_385 dL_law_386 dL_law_388 dL_law_389 dL_law_390 ?_
  refine lv_aload_n hx hb dL_law_391 rfl (lv_at hl 1 rfl) ?_
  refine lw_A (P := W3 ((pReign Q (yI xs (i + 1)) (yI xs (i + 2))).1) (Wn w0 ((pReign Q (yI xs (i + 1)) (yI xs (i + 2))).1) (CW τ x Q n B V K t S) (CW τ x Q n B V K t S))) C0 hM hp0 (fun w1 h => h.2.1) gl_L_ofReign cd_L_ofReign rfl ⟨rfl, rfl⟩ ⟨Nat.le_of_ble_eq_true rfl, Nat.le_of_ble_eq_true rfl⟩ hP hD hS rfl hl rfl dL_law_392 dL_law_395 hc rfl (fun z w9 H locs ls hz hw9 hP hD hS hl => ?_)
  refine lv_aload_n hx hb dL_law_397 rfl (lv_at hl 3 rfl) ?_
  refine la_arg (j := 1) C0 (by omega) rfl 5 1 hl rfl rfl hS dL_law_398 dL_law_399 dL_law_401 dL_law_402 dL_law_403 ?_
  refine la_arg (j := 2) C0 (by omega) rfl 5 1 hl rfl rfl hS dL_law_404 dL_law_405 dL_law_407 dL_law_408 dL_law_409 ?_
  refine lw_M (P := fun _ => True) (rest := []) C0 hmw hN gl_X10_ofReign cd_X10_ofReign rfl rfl ⟨rfl, rfl⟩ ⟨Nat.le_of_ble_eq_true rfl, Nat.le_of_ble_eq_true rfl⟩ hP hD hS rfl hl rfl (Nat.le_of_ble_eq_true rfl) dL_law_410 hc (fun r wm9 H locs hr hm0 hm1 hmt hP hD hS => ?_)
  refine lw_C (off := 1998) C0 ⟨dL_law_413, dL_law_415, dL_law_416, dL_law_419, dL_law_421, dL_law_426, dL_law_428, dL_law_431, dL_law_432, dL_law_433, dL_law_434, dL_law_436, dL_law_437, dL_law_438, dL_law_443, by decide⟩ hmt hz hr hw9.1 hP hl rfl rfl rfl rfl rfl hc (fun ls hl => ?_)
  have hl := lv_sub hl [2, 3, 4, 5, 6] rfl
  refine kk z w9 wm9 H locs ls ?_ hP hD hS hl
  by_cases hk : (pReign Q (yI xs (i + 1)) (yI xs (i + 2))).1 = 0
  · exact ⟨_, _, _, _, _, _, _, _, hw9.2.2.1 hk, hm0 hk⟩
  · exact ⟨_, _, _, _, _, _, _, _, hw9.2.2.2 hk, hm1 hk⟩

set_option maxRecDepth 100000 in
theorem lc_ofDie (hst : l.stackTraces = false) (C0 : LC p s m meth c b L xs g τ A) {i : Nat} (hi : i + 6 ≤ L) (hj : JW τ x mm w wm) (hP : va_P g vwCl ([outC oa z τ] ++ (w ++ wm)) H) (hD : va_D A ([outC oa z τ] ++ (w ++ wm))) (hS : va_S A s.heap H locs) (hl : lv_has ls 7 [(4, .int (iI (i : Int))), (3, .ref oa), (2, .ref mm), (1, .ref x), (0, .ref b)]) (hc : cells + 1 ≤ 601024 ∧ slots + 6 ≤ 7293034) (kk : lwK p l e s m below meth c cells slots QQ g τ A x mm oa b i) : W p l e room_1 s m #[Value.ref b] below meth c H locs cells slots QQ (F0 m 446 ls []) := by
  have hx := C0.1.1
  have hb := C0.1.2.1
  obtain ⟨Q, n, B, V, K, t, S, k0, hcw, hmw⟩ := hj
  obtain ⟨w0, hp0, hM⟩ := f_ofDie l hst g τ x oa z hcw (yI xs (i + 1)) (yI_r xs (i + 1)) (yI xs (i + 2)) (yI_r xs (i + 2))
  have hN := h_ofDie l g τ hmw (yI xs (i + 1)) (yI_r xs (i + 1)) (yI xs (i + 2)) (yI_r xs (i + 2))
  refine lv_aload_n hx hb dL_law_446 rfl (lv_at hl 3 rfl) ?_
  refine la_arg (j := 1) C0 (by omega) rfl 4 0 hl rfl rfl hS dL_law_447 dL_law_448 dL_law_450 dL_law_451 dL_law_452 ?_
  refine la_arg (j := 2) C0 (by omega) rfl 4 0 hl rfl rfl hS dL_law_453 dL_law_454 dL_law_456 dL_law_457 dL_law_458 ?_
  refine lv_aload_n hx hb dL_law_459 rfl (lv_at hl 1 rfl) ?_
  refine lw_A (P := W3 ((pDie Q (yI xs (i + 1)) (yI xs (i + 2))).1) (Wn w0 ((pDie Q (yI xs (i + 1)) (yI xs (i + 2))).1) (CW τ x Q n B V K t S) (CW τ x Q n B V K t S))) C0 hM hp0 (fun w1 h => h.2.1) gl_L_ofDie cd_L_ofDie rfl ⟨rfl, rfl⟩ ⟨Nat.le_of_ble_eq_true rfl, Nat.le_of_ble_eq_true rfl⟩ hP hD hS rfl hl rfl dL_law_460 dL_law_463 hc rfl (fun z w9 H locs ls hz hw9 hP hD hS hl => ?_)
  refine lv_aload_n hx hb dL_law_465 rfl (lv_at hl 3 rfl) ?_
  refine la_arg (j := 1) C0 (by omega) rfl 5 1 hl rfl rfl hS dL_law_466 dL_law_467 dL_law_469 dL_law_470 dL_law_471 ?_
  refine la_arg (j := 2) C0 (by omega) rfl 5 1 hl rfl rfl hS dL_law_472 dL_law_473 dL_law_475 dL_law_476 dL_law_477 ?_
  refine lw_M (P := fun _ => True) (rest := []) C0 hmw hN gl_X10_ofDie cd_X10_ofDie rfl rfl ⟨rfl, rfl⟩ ⟨Nat.le_of_ble_eq_true rfl, Nat.le_of_ble_eq_true rfl⟩ hP hD hS rfl hl rfl (Nat.le_of_ble_eq_true rfl) dL_law_478 hc (fun r wm9 H locs hr hm0 hm1 hmt hP hD hS => ?_)
  refine lw_C (off := 1930) C0 ⟨dL_law_481, dL_law_483, dL_law_484, dL_law_487, dL_law_489, dL_law_494, dL_law_496, dL_law_499, dL_law_500, dL_law_501, dL_law_502, dL_law_504, dL_law_505, dL_law_506, dL_law_511, by decide⟩ hmt hz hr hw9.1 hP hl rfl rfl rfl rfl rfl hc (fun ls hl => ?_)
  have hl := lv_sub hl [2, 3, 4, 5, 6] rfl
  refine kk z w9 wm9 H locs ls ?_ hP hD hS hl
  by_cases hk : (pDie Q (yI xs (i + 1)) (yI xs (i + 2))).1 = 0
  · exact ⟨_, _, _, _, _, _, _, _, hw9.2.2.1 hk, hm0 hk⟩
  · exact ⟨_, _, _, _, _, _, _, _, hw9.2.2.2 hk, hm1 hk⟩

set_option maxRecDepth 100000 in
theorem lc_crackYear (hst : l.stackTraces = false) (C0 : LC p s m meth c b L xs g τ A) {i : Nat} (hi : i + 6 ≤ L) (hj : JW τ x mm w wm) (hP : va_P g vwCl ([outC oa z τ] ++ (w ++ wm)) H) (hD : va_D A ([outC oa z τ] ++ (w ++ wm))) (hS : va_S A s.heap H locs) (hl : lv_has ls 7 [(4, .int (iI (i : Int))), (3, .ref oa), (2, .ref mm), (1, .ref x), (0, .ref b)]) (hc : cells + 1 ≤ 601024 ∧ slots + 6 ≤ 7293034) (kk : lwK p l e s m below meth c cells slots QQ g τ A x mm oa b i) : W p l e room_1 s m #[Value.ref b] below meth c H locs cells slots QQ (F0 m 514 ls []) := by
  have hx := C0.1.1
  have hb := C0.1.2.1
  obtain ⟨Q, n, B, V, K, t, S, k0, hcw, hmw⟩ := hj
  obtain ⟨w0, hp0, hM⟩ := f_crackYear l hst g τ x oa z hcw (yI xs (i + 1)) (yI_r xs (i + 1)) (yI xs (i + 2)) (yI_r xs (i + 2))
  have hN := h_crackYear l g τ hmw (yI xs (i + 1)) (yI_r xs (i + 1)) (yI xs (i + 2)) (yI_r xs (i + 2))
  refine lv_aload_n hx hb dL_law_514 rfl (lv_at hl 3 rfl) ?_
  refine la_arg (j := 1) C0 (by omega) rfl 4 0 hl rfl rfl hS dL_law_515 dL_law_516 dL_law_518 dL_law_519 dL_law_520 ?_
  refine la_arg (j := 2) C0 (by omega) rfl 4 0 hl rfl rfl hS dL_law_521 dL_law_522 dL_law_524 dL_law_525 dL_law_526 ?_
  refine lv_aload_n hx hb dL_law_527 rfl (lv_at hl 1 rfl) ?_
  refine lw_A (P := W3 ((pCrack Q (yI xs (i + 1)) (yI xs (i + 2))).1) (Wn w0 ((pCrack Q (yI xs (i + 1)) (yI xs (i + 2))).1) (CW τ x Q n B V K t S) (CW τ x Q n B V K t S))) C0 hM hp0 (fun w1 h => h.2.1) gl_L_crackYear cd_L_crackYear rfl ⟨rfl, rfl⟩ ⟨Nat.le_of_ble_eq_true rfl, Nat.le_of_ble_eq_true rfl⟩ hP hD hS rfl hl rfl dL_law_528 dL_law_531 hc rfl (fun z w9 H locs ls hz hw9 hP hD hS hl => ?_)
  refine lv_aload_n hx hb dL_law_533 rfl (lv_at hl 3 rfl) ?_
  refine la_arg (j := 1) C0 (by omega) rfl 5 1 hl rfl rfl hS dL_law_534 dL_law_535 dL_law_537 dL_law_538 dL_law_539 ?_
  refine la_arg (j := 2) C0 (by omega) rfl 5 1 hl rfl rfl hS dL_law_540 dL_law_541 dL_law_543 dL_law_544 dL_law_545 ?_
  refine lw_M (P := fun _ => True) (rest := []) C0 hmw hN gl_X10_crackYear cd_X10_crackYear rfl rfl ⟨rfl, rfl⟩ ⟨Nat.le_of_ble_eq_true rfl, Nat.le_of_ble_eq_true rfl⟩ hP hD hS rfl hl rfl (Nat.le_of_ble_eq_true rfl) dL_law_546 hc (fun r wm9 H locs hr hm0 hm1 hmt hP hD hS => ?_)
  refine lw_C (off := 1862) C0 ⟨dL_law_549, dL_law_551, dL_law_552, dL_law_555, dL_law_557, dL_law_562, dL_law_564, dL_law_567, dL_law_568, dL_law_569, dL_law_570, dL_law_572, dL_law_573, dL_law_574, dL_law_579, by decide⟩ hmt hz hr hw9.1 hP hl rfl rfl rfl rfl rfl hc (fun ls hl => ?_)
  have hl := lv_sub hl [2, 3, 4, 5, 6] rfl
  refine kk z w9 wm9 H locs ls ?_ hP hD hS hl
  by_cases hk : (pCrack Q (yI xs (i + 1)) (yI xs (i + 2))).1 = 0
  · exact ⟨_, _, _, _, _, _, _, _, hw9.2.2.1 hk, hm0 hk⟩
  · exact ⟨_, _, _, _, _, _, _, _, hw9.2.2.2 hk, hm1 hk⟩

set_option maxRecDepth 100000 in
theorem lc_ofSeal (hst : l.stackTraces = false) (C0 : LC p s m meth c b L xs g τ A) {i : Nat} (hi : i + 6 ≤ L) (hj : JW τ x mm w wm) (hP : va_P g vwCl ([outC oa z τ] ++ (w ++ wm)) H) (hD : va_D A ([outC oa z τ] ++ (w ++ wm))) (hS : va_S A s.heap H locs) (hl : lv_has ls 7 [(4, .int (iI (i : Int))), (3, .ref oa), (2, .ref mm), (1, .ref x), (0, .ref b)]) (hc : cells + 1 ≤ 601024 ∧ slots + 6 ≤ 7293034) (kk : lwK p l e s m below meth c cells slots QQ g τ A x mm oa b i) : W p l e room_1 s m #[Value.ref b] below meth c H locs cells slots QQ (F0 m 582 ls []) := by
  have hx := C0.1.1
  have hb := C0.1.2.1
  obtain ⟨Q, n, B, V, K, t, S, k0, hcw, hmw⟩ := hj
  obtain ⟨w0, hp0, hM⟩ := f_ofSeal l hst g τ x oa z hcw (yI xs (i + 1)) (yI_r xs (i + 1)) (yI xs (i + 2)) (yI_r xs (i + 2))
  have hN := h_ofSeal l g τ hmw (yI xs (i + 1)) (yI_r xs (i + 1)) (yI xs (i + 2)) (yI_r xs (i + 2))
  refine lv_aload_n hx hb dL_law_582 rfl (lv_at hl 3 rfl) ?_
  refine la_arg (j := 1) C0 (by omega) rfl 4 0 hl rfl rfl hS dL_law_583 dL_law_584 dL_law_586 dL_law_587 dL_law_588 ?_
  refine la_arg (j := 2) C0 (by omega) rfl 4 0 hl rfl rfl hS dL_law_589 dL_law_590 dL_law_592 dL_law_593 dL_law_594 ?_
  refine lv_aload_n hx hb dL_law_595 rfl (lv_at hl 1 rfl) ?_
  refine lw_A (P := W3 ((pSeal Q (yI xs (i + 1)) (yI xs (i + 2))).1) (Wn w0 ((pSeal Q (yI xs (i + 1)) (yI xs (i + 2))).1) (CW τ x Q n B V K t S) (CW τ x Q n B V K t S))) C0 hM hp0 (fun w1 h => h.2.1) gl_L_ofSeal cd_L_ofSeal rfl ⟨rfl, rfl⟩ ⟨Nat.le_of_ble_eq_true rfl, Nat.le_of_ble_eq_true rfl⟩ hP hD hS rfl hl rfl dL_law_596 dL_law_599 hc rfl (fun z w9 H locs ls hz hw9 hP hD hS hl => ?_)
  refine lv_aload_n hx hb dL_law_601 rfl (lv_at hl 3 rfl) ?_
  refine la_arg (j := 1) C0 (by omega) rfl 5 1 hl rfl rfl hS dL_law_602 dL_law_603 dL_law_605 dL_law_606 dL_law_607 ?_
  refine la_arg (j := 2) C0 (by omega) rfl 5 1 hl rfl rfl hS dL_law_608 dL_law_609 dL_law_611 dL_law_612 dL_law_613 ?_
  refine lw_M (P := fun _ => True) (rest := []) C0 hmw hN gl_X10_ofSeal cd_X10_ofSeal rfl rfl ⟨rfl, rfl⟩ ⟨Nat.le_of_ble_eq_true rfl, Nat.le_of_ble_eq_true rfl⟩ hP hD hS rfl hl rfl (Nat.le_of_ble_eq_true rfl) dL_law_614 hc (fun r wm9 H locs hr hm0 hm1 hmt hP hD hS => ?_)
  refine lw_C (off := 1794) C0 ⟨dL_law_617, dL_law_619, dL_law_620, dL_law_623, dL_law_625, dL_law_630, dL_law_632, dL_law_635, dL_law_636, dL_law_637, dL_law_638, dL_law_640, dL_law_641, dL_law_642, dL_law_647, by decide⟩ hmt hz hr hw9.1 hP hl rfl rfl rfl rfl rfl hc (fun ls hl => ?_)
  have hl := lv_sub hl [2, 3, 4, 5, 6] rfl
  refine kk z w9 wm9 H locs ls ?_ hP hD hS hl
  by_cases hk : (pSeal Q (yI xs (i + 1)) (yI xs (i + 2))).1 = 0
  · exact ⟨_, _, _, _, _, _, _, _, hw9.2.2.1 hk, hm0 hk⟩
  · exact ⟨_, _, _, _, _, _, _, _, hw9.2.2.2 hk, hm1 hk⟩

set_option maxRecDepth 100000 in
theorem lc_dated (hst : l.stackTraces = false) (C0 : LC p s m meth c b L xs g τ A) {i : Nat} (hi : i + 6 ≤ L) (hj : JW τ x mm w wm) (hP : va_P g vwCl ([outC oa z τ] ++ (w ++ wm)) H) (hD : va_D A ([outC oa z τ] ++ (w ++ wm))) (hS : va_S A s.heap H locs) (hl : lv_has ls 7 [(4, .int (iI (i : Int))), (3, .ref oa), (2, .ref mm), (1, .ref x), (0, .ref b)]) (hc : cells + 1 ≤ 601024 ∧ slots + 6 ≤ 7293034) (kk : lwK p l e s m below meth c cells slots QQ g τ A x mm oa b i) : W p l e room_1 s m #[Value.ref b] below meth c H locs cells slots QQ (F0 m 650 ls []) := by
  have hx := C0.1.1
  have hb := C0.1.2.1
  obtain ⟨Q, n, B, V, K, t, S, k0, hcw, hmw⟩ := hj
  obtain ⟨w0, hp0, hM⟩ := f_dated l hst g τ x oa z hcw (yI xs (i + 1)) (yI_r xs (i + 1)) (yI xs (i + 2)) (yI_r xs (i + 2))
  have hN := h_dated l g τ hmw (yI xs (i + 1)) (yI_r xs (i + 1)) (yI xs (i + 2)) (yI_r xs (i + 2))
  refine lv_aload_n hx hb dL_law_650 rfl (lv_at hl 3 rfl) ?_
  refine la_arg (j := 1) C0 (by omega) rfl 4 0 hl rfl rfl hS dL_law_651 dL_law_652 dL_law_654 dL_law_655 dL_law_656 ?_
  refine la_arg (j := 2) C0 (by omega) rfl 4 0 hl rfl rfl hS dL_law_657 dL_law_658 dL_law_660 dL_law_661 dL_law_662 ?_
  refine lv_aload_n hx hb dL_law_663 rfl (lv_at hl 1 rfl) ?_
  refine lw_A (P := W3 ((pDated Q (yI xs (i + 1)) (yI xs (i + 2))).1) (Wn w0 ((pDated Q (yI xs (i + 1)) (yI xs (i + 2))).1) (CW τ x Q n B V K t S) (CW τ x Q n B V K t S))) C0 hM hp0 (fun w1 h => h.2.1) gl_L_dated cd_L_dated rfl ⟨rfl, rfl⟩ ⟨Nat.le_of_ble_eq_true rfl, Nat.le_of_ble_eq_true rfl⟩ hP hD hS rfl hl rfl dL_law_664 dL_law_667 hc rfl (fun z w9 H locs ls hz hw9 hP hD hS hl => ?_)
  refine lv_aload_n hx hb dL_law_669 rfl (lv_at hl 3 rfl) ?_
  refine la_arg (j := 1) C0 (by omega) rfl 5 1 hl rfl rfl hS dL_law_670 dL_law_671 dL_law_673 dL_law_674 dL_law_675 ?_
  refine la_arg (j := 2) C0 (by omega) rfl 5 1 hl rfl rfl hS dL_law_676 dL_law_677 dL_law_679 dL_law_680 dL_law_681 ?_
  refine lw_M (P := fun _ => True) (rest := []) C0 hmw hN gl_X10_dated cd_X10_dated rfl rfl ⟨rfl, rfl⟩ ⟨Nat.le_of_ble_eq_true rfl, Nat.le_of_ble_eq_true rfl⟩ hP hD hS rfl hl rfl (Nat.le_of_ble_eq_true rfl) dL_law_682 hc (fun r wm9 H locs hr hm0 hm1 hmt hP hD hS => ?_)
  refine lw_C (off := 1726) C0 ⟨dL_law_685, dL_law_687, dL_law_688, dL_law_691, dL_law_693, dL_law_698, dL_law_700, dL_law_703, dL_law_704, dL_law_705, dL_law_706, dL_law_708, dL_law_709, dL_law_710, dL_law_715, by decide⟩ hmt hz hr hw9.1 hP hl rfl rfl rfl rfl rfl hc (fun ls hl => ?_)
  have hl := lv_sub hl [2, 3, 4, 5, 6] rfl
  refine kk z w9 wm9 H locs ls ?_ hP hD hS hl
  by_cases hk : (pDated Q (yI xs (i + 1)) (yI xs (i + 2))).1 = 0
  · exact ⟨_, _, _, _, _, _, _, _, hw9.2.2.1 hk, hm0 hk⟩
  · exact ⟨_, _, _, _, _, _, _, _, hw9.2.2.2 hk, hm1 hk⟩

set_option maxRecDepth 100000 in
theorem lc_isPossible (hst : l.stackTraces = false) (C0 : LC p s m meth c b L xs g τ A) {i : Nat} (hi : i + 6 ≤ L) (hj : JW τ x mm w wm) (hP : va_P g vwCl ([outC oa z τ] ++ (w ++ wm)) H) (hD : va_D A ([outC oa z τ] ++ (w ++ wm))) (hS : va_S A s.heap H locs) (hl : lv_has ls 7 [(4, .int (iI (i : Int))), (3, .ref oa), (2, .ref mm), (1, .ref x), (0, .ref b)]) (hc : cells + 1 ≤ 601024 ∧ slots + 6 ≤ 7293034) (kk : lwK p l e s m below meth c cells slots QQ g τ A x mm oa b i) : W p l e room_1 s m #[Value.ref b] below meth c H locs cells slots QQ (F0 m 718 ls []) := by
  have hx := C0.1.1
  have hb := C0.1.2.1
  obtain ⟨Q, n, B, V, K, t, S, k0, hcw, hmw⟩ := hj
  obtain ⟨w0, hp0, hM⟩ := f_isPossible l hst g τ x oa z hcw (yI xs (i + 1)) (yI_r xs (i + 1)) (yI xs (i + 2)) (yI_r xs (i + 2))
  have hN := h_isPossible l g τ hmw (yI xs (i + 1)) (yI_r xs (i + 1)) (yI xs (i + 2)) (yI_r xs (i + 2))
  refine lv_aload_n hx hb dL_law_718 rfl (lv_at hl 3 rfl) ?_
  refine la_arg (j := 1) C0 (by omega) rfl 4 0 hl rfl rfl hS dL_law_719 dL_law_720 dL_law_722 dL_law_723 dL_law_724 ?_
  refine la_arg (j := 2) C0 (by omega) rfl 4 0 hl rfl rfl hS dL_law_725 dL_law_726 dL_law_728 dL_law_729 dL_law_730 ?_
  refine lv_aload_n hx hb dL_law_731 rfl (lv_at hl 1 rfl) ?_
  refine lw_A (P := W3 ((pPoss Q (yI xs (i + 1)) (yI xs (i + 2))).1) (Wn w0 ((pPoss Q (yI xs (i + 1)) (yI xs (i + 2))).1) (CW τ x Q n B V K t S) (CW τ x Q n B V K t S))) C0 hM hp0 (fun w1 h => h.2.1) gl_L_isPossible cd_L_isPossible rfl ⟨rfl, rfl⟩ ⟨Nat.le_of_ble_eq_true rfl, Nat.le_of_ble_eq_true rfl⟩ hP hD hS rfl hl rfl dL_law_732 dL_law_735 hc rfl (fun z w9 H locs ls hz hw9 hP hD hS hl => ?_)
  refine lv_aload_n hx hb dL_law_737 rfl (lv_at hl 3 rfl) ?_
  refine la_arg (j := 1) C0 (by omega) rfl 5 1 hl rfl rfl hS dL_law_738 dL_law_739 dL_law_741 dL_law_742 dL_law_743 ?_
  refine la_arg (j := 2) C0 (by omega) rfl 5 1 hl rfl rfl hS dL_law_744 dL_law_745 dL_law_747 dL_law_748 dL_law_749 ?_
  refine lw_M (P := fun _ => True) (rest := []) C0 hmw hN gl_X10_isPossible cd_X10_isPossible rfl rfl ⟨rfl, rfl⟩ ⟨Nat.le_of_ble_eq_true rfl, Nat.le_of_ble_eq_true rfl⟩ hP hD hS rfl hl rfl (Nat.le_of_ble_eq_true rfl) dL_law_750 hc (fun r wm9 H locs hr hm0 hm1 hmt hP hD hS => ?_)
  refine lw_Cb C0 hmt hz hr hw9.1 (fun hk => pPoss_b hk) hP hl hc (fun ls hl => ?_)
  have hl := lv_sub hl [2, 3, 4, 5, 6] rfl
  refine kk z w9 wm9 H locs ls ?_ hP hD hS hl
  by_cases hk : (pPoss Q (yI xs (i + 1)) (yI xs (i + 2))).1 = 0
  · exact ⟨_, _, _, _, _, _, _, _, hw9.2.2.1 hk, hm0 hk⟩
  · exact ⟨_, _, _, _, _, _, _, _, hw9.2.2.2 hk, hm1 hk⟩

set_option maxRecDepth 100000 in
theorem lc_charter (hst : l.stackTraces = false) (C0 : LC p s m meth c b L xs g τ A) {i : Nat} (hi : i + 6 ≤ L) (hj : JW τ x mm w wm) (hP : va_P g vwCl ([outC oa z τ] ++ (w ++ wm)) H) (hD : va_D A ([outC oa z τ] ++ (w ++ wm))) (hS : va_S A s.heap H locs) (hl : lv_has ls 7 [(4, .int (iI (i : Int))), (3, .ref oa), (2, .ref mm), (1, .ref x), (0, .ref b)]) (hc : cells + 1 ≤ 601024 ∧ slots + 6 ≤ 7293034) (kk : lwK p l e s m below meth c cells slots QQ g τ A x mm oa b i) : W p l e room_1 s m #[Value.ref b] below meth c H locs cells slots QQ (F0 m 793 ls []) := by
  have hx := C0.1.1
  have hb := C0.1.2.1
  obtain ⟨Q, n, B, V, K, t, S, k0, hcw, hmw⟩ := hj
  obtain ⟨w0, hp0, hM⟩ := f_charter l hst g τ x oa z hcw (yI xs (i + 1)) (yI_r xs (i + 1)) (yI xs (i + 2)) (yI_r xs (i + 2))
  have hN := h_charter l g τ hmw (yI xs (i + 1)) (yI_r xs (i + 1)) (yI xs (i + 2)) (yI_r xs (i + 2))
  refine lv_aload_n hx hb dL_law_793 rfl (lv_at hl 3 rfl) ?_
  refine la_arg (j := 1) C0 (by omega) rfl 4 0 hl rfl rfl hS dL_law_794 dL_law_795 dL_law_797 dL_law_798 dL_law_799 ?_
  refine la_arg (j := 2) C0 (by omega) rfl 4 0 hl rfl rfl hS dL_law_800 dL_law_801 dL_law_803 dL_law_804 dL_law_805 ?_
  refine lv_aload_n hx hb dL_law_806 rfl (lv_at hl 1 rfl) ?_
  refine lw_A (P := W3 ((pChart Q (yI xs (i + 1)) (yI xs (i + 2))).1) (Wn w0 ((pChart Q (yI xs (i + 1)) (yI xs (i + 2))).1) (CW τ x Q n B V K t S) (CW τ x Q n B V K t S))) C0 hM hp0 (fun w1 h => h.2.1) gl_L_charter cd_L_charter rfl ⟨rfl, rfl⟩ ⟨Nat.le_of_ble_eq_true rfl, Nat.le_of_ble_eq_true rfl⟩ hP hD hS rfl hl rfl dL_law_807 dL_law_810 hc rfl (fun z w9 H locs ls hz hw9 hP hD hS hl => ?_)
  refine lv_aload_n hx hb dL_law_812 rfl (lv_at hl 3 rfl) ?_
  refine la_arg (j := 1) C0 (by omega) rfl 5 1 hl rfl rfl hS dL_law_813 dL_law_814 dL_law_816 dL_law_817 dL_law_818 ?_
  refine la_arg (j := 2) C0 (by omega) rfl 5 1 hl rfl rfl hS dL_law_819 dL_law_820 dL_law_822 dL_law_823 dL_law_824 ?_
  refine lw_M (P := fun _ => True) (rest := []) C0 hmw hN gl_X10_charter cd_X10_charter rfl rfl ⟨rfl, rfl⟩ ⟨Nat.le_of_ble_eq_true rfl, Nat.le_of_ble_eq_true rfl⟩ hP hD hS rfl hl rfl (Nat.le_of_ble_eq_true rfl) dL_law_825 hc (fun r wm9 H locs hr hm0 hm1 hmt hP hD hS => ?_)
  refine lw_C (off := 1583) C0 ⟨dL_law_828, dL_law_830, dL_law_831, dL_law_834, dL_law_836, dL_law_841, dL_law_843, dL_law_846, dL_law_847, dL_law_848, dL_law_849, dL_law_851, dL_law_852, dL_law_853, dL_law_858, by decide⟩ hmt hz hr hw9.1 hP hl rfl rfl rfl rfl rfl hc (fun ls hl => ?_)
  have hl := lv_sub hl [2, 3, 4, 5, 6] rfl
  refine kk z w9 wm9 H locs ls ?_ hP hD hS hl
  by_cases hk : (pChart Q (yI xs (i + 1)) (yI xs (i + 2))).1 = 0
  · exact ⟨_, _, _, _, _, _, _, _, hw9.2.2.1 hk, hm0 hk⟩
  · exact ⟨_, _, _, _, _, _, _, _, hw9.2.2.2 hk, hm1 hk⟩

set_option maxRecDepth 100000 in
theorem lc_onShelf (hst : l.stackTraces = false) (C0 : LC p s m meth c b L xs g τ A) {i : Nat} (hi : i + 6 ≤ L) (hj : JW τ x mm w wm) (hP : va_P g vwCl ([outC oa z τ] ++ (w ++ wm)) H) (hD : va_D A ([outC oa z τ] ++ (w ++ wm))) (hS : va_S A s.heap H locs) (hl : lv_has ls 7 [(4, .int (iI (i : Int))), (3, .ref oa), (2, .ref mm), (1, .ref x), (0, .ref b)]) (hc : cells + 1 ≤ 601024 ∧ slots + 6 ≤ 7293034) (kk : lwK p l e s m below meth c cells slots QQ g τ A x mm oa b i) : W p l e room_1 s m #[Value.ref b] below meth c H locs cells slots QQ (F0 m 861 ls []) := by
  have hx := C0.1.1
  have hb := C0.1.2.1
  obtain ⟨Q, n, B, V, K, t, S, k0, hcw, hmw⟩ := hj
  obtain ⟨w0, hp0, hM⟩ := f_onShelf l hst g τ x oa z hcw (yI xs (i + 1)) (yI_r xs (i + 1)) (yI xs (i + 2)) (yI_r xs (i + 2))
  have hN := h_onShelf l g τ hmw (yI xs (i + 1)) (yI_r xs (i + 1)) (yI xs (i + 2)) (yI_r xs (i + 2))
  refine lv_aload_n hx hb dL_law_861 rfl (lv_at hl 3 rfl) ?_
  refine la_arg (j := 1) C0 (by omega) rfl 4 0 hl rfl rfl hS dL_law_862 dL_law_863 dL_law_865 dL_law_866 dL_law_867 ?_
  refine la_arg (j := 2) C0 (by omega) rfl 4 0 hl rfl rfl hS dL_law_868 dL_law_869 dL_law_871 dL_law_872 dL_law_873 ?_
  refine lv_aload_n hx hb dL_law_874 rfl (lv_at hl 1 rfl) ?_
  refine lw_A (P := W3 ((pShelf Q (yI xs (i + 1)) (yI xs (i + 2))).1) (Wn w0 ((pShelf Q (yI xs (i + 1)) (yI xs (i + 2))).1) (CW τ x Q n B V K t S) (CW τ x Q n B V K t S))) C0 hM hp0 (fun w1 h => h.2.1) gl_L_onShelf cd_L_onShelf rfl ⟨rfl, rfl⟩ ⟨Nat.le_of_ble_eq_true rfl, Nat.le_of_ble_eq_true rfl⟩ hP hD hS rfl hl rfl dL_law_875 dL_law_878 hc rfl (fun z w9 H locs ls hz hw9 hP hD hS hl => ?_)
  refine lv_aload_n hx hb dL_law_880 rfl (lv_at hl 3 rfl) ?_
  refine la_arg (j := 1) C0 (by omega) rfl 5 1 hl rfl rfl hS dL_law_881 dL_law_882 dL_law_884 dL_law_885 dL_law_886 ?_
  refine la_arg (j := 2) C0 (by omega) rfl 5 1 hl rfl rfl hS dL_law_887 dL_law_888 dL_law_890 dL_law_891 dL_law_892 ?_
  refine lw_M (P := fun _ => True) (rest := []) C0 hmw hN gl_X10_onShelf cd_X10_onShelf rfl rfl ⟨rfl, rfl⟩ ⟨Nat.le_of_ble_eq_true rfl, Nat.le_of_ble_eq_true rfl⟩ hP hD hS rfl hl rfl (Nat.le_of_ble_eq_true rfl) dL_law_893 hc (fun r wm9 H locs hr hm0 hm1 hmt hP hD hS => ?_)
  refine lw_C (off := 1515) C0 ⟨dL_law_896, dL_law_898, dL_law_899, dL_law_902, dL_law_904, dL_law_909, dL_law_911, dL_law_914, dL_law_915, dL_law_916, dL_law_917, dL_law_919, dL_law_920, dL_law_921, dL_law_926, by decide⟩ hmt hz hr hw9.1 hP hl rfl rfl rfl rfl rfl hc (fun ls hl => ?_)
  have hl := lv_sub hl [2, 3, 4, 5, 6] rfl
  refine kk z w9 wm9 H locs ls ?_ hP hD hS hl
  by_cases hk : (pShelf Q (yI xs (i + 1)) (yI xs (i + 2))).1 = 0
  · exact ⟨_, _, _, _, _, _, _, _, hw9.2.2.1 hk, hm0 hk⟩
  · exact ⟨_, _, _, _, _, _, _, _, hw9.2.2.2 hk, hm1 hk⟩

set_option maxRecDepth 100000 in
theorem lc_reign (hst : l.stackTraces = false) (C0 : LC p s m meth c b L xs g τ A) {i : Nat} (hi : i + 6 ≤ L) (hj : JW τ x mm w wm) (hP : va_P g vwCl ([outC oa z τ] ++ (w ++ wm)) H) (hD : va_D A ([outC oa z τ] ++ (w ++ wm))) (hS : va_S A s.heap H locs) (hl : lv_has ls 7 [(4, .int (iI (i : Int))), (3, .ref oa), (2, .ref mm), (1, .ref x), (0, .ref b)]) (hc : cells + 1 ≤ 601024 ∧ slots + 6 ≤ 7293034) (kk : lwK p l e s m below meth c cells slots QQ g τ A x mm oa b i) : W p l e room_1 s m #[Value.ref b] below meth c H locs cells slots QQ (F0 m 929 ls []) := by
  have hx := C0.1.1
  have hb := C0.1.2.1
  obtain ⟨Q, n, B, V, K, t, S, k0, hcw, hmw⟩ := hj
  obtain ⟨w0, hp0, hM⟩ := f_reign l hst g τ x oa z hcw (yI xs (i + 1)) (yI_r xs (i + 1)) (yI xs (i + 2)) (yI_r xs (i + 2))
  have hN := h_reign l g τ hmw (yI xs (i + 1)) (yI_r xs (i + 1)) (yI xs (i + 2)) (yI_r xs (i + 2))
  refine lv_aload_n hx hb dL_law_929 rfl (lv_at hl 3 rfl) ?_
  refine la_arg (j := 1) C0 (by omega) rfl 4 0 hl rfl rfl hS dL_law_930 dL_law_931 dL_law_933 dL_law_934 dL_law_935 ?_
  refine la_arg (j := 2) C0 (by omega) rfl 4 0 hl rfl rfl hS dL_law_936 dL_law_937 dL_law_939 dL_law_940 dL_law_941 ?_
  refine lv_aload_n hx hb dL_law_942 rfl (lv_at hl 1 rfl) ?_
  refine lw_A (P := W3 (kA (aReign Q (yI xs (i + 1)) (yI xs (i + 2))).1 0 1 2) (Wn w0 (kA (aReign Q (yI xs (i + 1)) (yI xs (i + 2))).1 0 1 2) (CW τ x (aReign Q (yI xs (i + 1)) (yI xs (i + 2))).2 (mN n) (rmB n B Q).2 V K t S) (CW τ x Q n B V K t S))) C0 hM hp0 (fun w1 h => h.2.1) gl_L_reign cd_L_reign rfl ⟨rfl, rfl⟩ ⟨Nat.le_of_ble_eq_true rfl, Nat.le_of_ble_eq_true rfl⟩ hP hD hS rfl hl rfl dL_law_943 dL_law_946 hc rfl (fun z w9 H locs ls hz hw9 hP hD hS hl => ?_)
  refine lv_aload_n hx hb dL_law_948 rfl (lv_at hl 3 rfl) ?_
  refine la_arg (j := 1) C0 (by omega) rfl 5 1 hl rfl rfl hS dL_law_949 dL_law_950 dL_law_952 dL_law_953 dL_law_954 ?_
  refine la_arg (j := 2) C0 (by omega) rfl 5 1 hl rfl rfl hS dL_law_955 dL_law_956 dL_law_958 dL_law_959 dL_law_960 ?_
  refine lw_M (P := fun _ => True) (rest := []) C0 hmw hN gl_X10_reign cd_X10_reign rfl rfl ⟨rfl, rfl⟩ ⟨Nat.le_of_ble_eq_true rfl, Nat.le_of_ble_eq_true rfl⟩ hP hD hS rfl hl rfl (Nat.le_of_ble_eq_true rfl) dL_law_961 hc (fun r wm9 H locs hr hm0 hm1 hmt hP hD hS => ?_)
  refine lw_C (off := 1447) C0 ⟨dL_law_964, dL_law_966, dL_law_967, dL_law_970, dL_law_972, dL_law_977, dL_law_979, dL_law_982, dL_law_983, dL_law_984, dL_law_985, dL_law_987, dL_law_988, dL_law_989, dL_law_994, by decide⟩ hmt hz hr hw9.1 hP hl rfl rfl rfl rfl rfl hc (fun ls hl => ?_)
  have hl := lv_sub hl [2, 3, 4, 5, 6] rfl
  refine kk z w9 wm9 H locs ls ?_ hP hD hS hl
  by_cases hk : kA (aReign Q (yI xs (i + 1)) (yI xs (i + 2))).1 0 1 2 = 0
  · exact ⟨_, _, _, _, _, _, _, _, hw9.2.2.1 hk, hm0 hk⟩
  · exact ⟨_, _, _, _, _, _, _, _, hw9.2.2.2 hk, hm1 hk⟩

set_option maxRecDepth 100000 in
theorem lc_die (hst : l.stackTraces = false) (C0 : LC p s m meth c b L xs g τ A) {i : Nat} (hi : i + 6 ≤ L) (hj : JW τ x mm w wm) (hP : va_P g vwCl ([outC oa z τ] ++ (w ++ wm)) H) (hD : va_D A ([outC oa z τ] ++ (w ++ wm))) (hS : va_S A s.heap H locs) (hl : lv_has ls 7 [(4, .int (iI (i : Int))), (3, .ref oa), (2, .ref mm), (1, .ref x), (0, .ref b)]) (hc : cells + 1 ≤ 601024 ∧ slots + 6 ≤ 7293034) (kk : lwK p l e s m below meth c cells slots QQ g τ A x mm oa b i) : W p l e room_1 s m #[Value.ref b] below meth c H locs cells slots QQ (F0 m 997 ls []) := by
  have hx := C0.1.1
  have hb := C0.1.2.1
  obtain ⟨Q, n, B, V, K, t, S, k0, hcw, hmw⟩ := hj
  obtain ⟨w0, hp0, hM⟩ := f_die l hst g τ x oa z hcw (yI xs (i + 1)) (yI_r xs (i + 1)) (yI xs (i + 2)) (yI_r xs (i + 2)) (yI xs (i + 3)) (yI_r xs (i + 3))
  have hN := h_die l g τ hmw (yI xs (i + 1)) (yI_r xs (i + 1)) (yI xs (i + 2)) (yI_r xs (i + 2)) (yI xs (i + 3)) (yI_r xs (i + 3))
  refine lv_aload_n hx hb dL_law_997 rfl (lv_at hl 3 rfl) ?_
  refine la_arg (j := 1) C0 (by omega) rfl 4 0 hl rfl rfl hS dL_law_998 dL_law_999 dL_law_1001 dL_law_1002 dL_law_1003 ?_
  refine la_arg (j := 2) C0 (by omega) rfl 4 0 hl rfl rfl hS dL_law_1004 dL_law_1005 dL_law_1007 dL_law_1008 dL_law_1009 ?_
  refine la_arg (j := 3) C0 (by omega) rfl 4 0 hl rfl rfl hS dL_law_1010 dL_law_1011 dL_law_1013 dL_law_1014 dL_law_1015 ?_
  refine lv_aload_n hx hb dL_law_1016 rfl (lv_at hl 1 rfl) ?_
  refine lw_A (P := W3 (kA (aDie Q (yI xs (i + 1)) (yI xs (i + 2)) (yI xs (i + 3))).1 0 1 2) (Wn w0 (kA (aDie Q (yI xs (i + 1)) (yI xs (i + 2)) (yI xs (i + 3))).1 0 1 2) (CW τ x (aDie Q (yI xs (i + 1)) (yI xs (i + 2)) (yI xs (i + 3))).2 (mN n) (rmB n B Q).2 V K t S) (CW τ x Q n B V K t S))) C0 hM hp0 (fun w1 h => h.2.1) gl_L_die cd_L_die rfl ⟨rfl, rfl⟩ ⟨Nat.le_of_ble_eq_true rfl, Nat.le_of_ble_eq_true rfl⟩ hP hD hS rfl hl rfl dL_law_1017 dL_law_1020 hc rfl (fun z w9 H locs ls hz hw9 hP hD hS hl => ?_)
  refine lv_aload_n hx hb dL_law_1022 rfl (lv_at hl 3 rfl) ?_
  refine la_arg (j := 1) C0 (by omega) rfl 5 1 hl rfl rfl hS dL_law_1023 dL_law_1024 dL_law_1026 dL_law_1027 dL_law_1028 ?_
  refine la_arg (j := 2) C0 (by omega) rfl 5 1 hl rfl rfl hS dL_law_1029 dL_law_1030 dL_law_1032 dL_law_1033 dL_law_1034 ?_
  refine la_arg (j := 3) C0 (by omega) rfl 5 1 hl rfl rfl hS dL_law_1035 dL_law_1036 dL_law_1038 dL_law_1039 dL_law_1040 ?_
  refine lw_M (P := fun _ => True) (rest := []) C0 hmw hN gl_X10_die cd_X10_die rfl rfl ⟨rfl, rfl⟩ ⟨Nat.le_of_ble_eq_true rfl, Nat.le_of_ble_eq_true rfl⟩ hP hD hS rfl hl rfl (Nat.le_of_ble_eq_true rfl) dL_law_1041 hc (fun r wm9 H locs hr hm0 hm1 hmt hP hD hS => ?_)
  refine lw_C (off := 1367) C0 ⟨dL_law_1044, dL_law_1046, dL_law_1047, dL_law_1050, dL_law_1052, dL_law_1057, dL_law_1059, dL_law_1062, dL_law_1063, dL_law_1064, dL_law_1065, dL_law_1067, dL_law_1068, dL_law_1069, dL_law_1074, by decide⟩ hmt hz hr hw9.1 hP hl rfl rfl rfl rfl rfl hc (fun ls hl => ?_)
  have hl := lv_sub hl [2, 3, 4, 5, 6] rfl
  refine kk z w9 wm9 H locs ls ?_ hP hD hS hl
  by_cases hk : kA (aDie Q (yI xs (i + 1)) (yI xs (i + 2)) (yI xs (i + 3))).1 0 1 2 = 0
  · exact ⟨_, _, _, _, _, _, _, _, hw9.2.2.1 hk, hm0 hk⟩
  · exact ⟨_, _, _, _, _, _, _, _, hw9.2.2.2 hk, hm1 hk⟩

set_option maxRecDepth 100000 in
theorem lc_crack (hst : l.stackTraces = false) (C0 : LC p s m meth c b L xs g τ A) {i : Nat} (hi : i + 6 ≤ L) (hj : JW τ x mm w wm) (hP : va_P g vwCl ([outC oa z τ] ++ (w ++ wm)) H) (hD : va_D A ([outC oa z τ] ++ (w ++ wm))) (hS : va_S A s.heap H locs) (hl : lv_has ls 7 [(4, .int (iI (i : Int))), (3, .ref oa), (2, .ref mm), (1, .ref x), (0, .ref b)]) (hc : cells + 1 ≤ 601024 ∧ slots + 6 ≤ 7293034) (kk : lwK p l e s m below meth c cells slots QQ g τ A x mm oa b i) : W p l e room_1 s m #[Value.ref b] below meth c H locs cells slots QQ (F0 m 1077 ls []) := by
  have hx := C0.1.1
  have hb := C0.1.2.1
  obtain ⟨Q, n, B, V, K, t, S, k0, hcw, hmw⟩ := hj
  obtain ⟨w0, hp0, hM⟩ := f_crack l hst g τ x oa z hcw (yI xs (i + 1)) (yI_r xs (i + 1)) (yI xs (i + 2)) (yI_r xs (i + 2))
  have hN := h_crack l g τ hmw (yI xs (i + 1)) (yI_r xs (i + 1)) (yI xs (i + 2)) (yI_r xs (i + 2))
  refine lv_aload_n hx hb dL_law_1077 rfl (lv_at hl 3 rfl) ?_
  refine la_arg (j := 1) C0 (by omega) rfl 4 0 hl rfl rfl hS dL_law_1078 dL_law_1079 dL_law_1081 dL_law_1082 dL_law_1083 ?_
  refine la_arg (j := 2) C0 (by omega) rfl 4 0 hl rfl rfl hS dL_law_1084 dL_law_1085 dL_law_1087 dL_law_1088 dL_law_1089 ?_
  refine lv_aload_n hx hb dL_law_1090 rfl (lv_at hl 1 rfl) ?_
  refine lw_A (P := W3 (kA (aCrack Q (yI xs (i + 1)) (yI xs (i + 2))).1 1 2 3) (Wn w0 (kA (aCrack Q (yI xs (i + 1)) (yI xs (i + 2))).1 1 2 3) (CW τ x (aCrack Q (yI xs (i + 1)) (yI xs (i + 2))).2 (mN n) (rmB n B Q).2 V K t S) (CW τ x Q n B V K t S))) C0 hM hp0 (fun w1 h => h.2.1) gl_L_crack cd_L_crack rfl ⟨rfl, rfl⟩ ⟨Nat.le_of_ble_eq_true rfl, Nat.le_of_ble_eq_true rfl⟩ hP hD hS rfl hl rfl dL_law_1091 dL_law_1094 hc rfl (fun z w9 H locs ls hz hw9 hP hD hS hl => ?_)
  refine lv_aload_n hx hb dL_law_1096 rfl (lv_at hl 3 rfl) ?_
  refine la_arg (j := 1) C0 (by omega) rfl 5 1 hl rfl rfl hS dL_law_1097 dL_law_1098 dL_law_1100 dL_law_1101 dL_law_1102 ?_
  refine la_arg (j := 2) C0 (by omega) rfl 5 1 hl rfl rfl hS dL_law_1103 dL_law_1104 dL_law_1106 dL_law_1107 dL_law_1108 ?_
  refine lw_M (P := fun _ => True) (rest := []) C0 hmw hN gl_X10_crack cd_X10_crack rfl rfl ⟨rfl, rfl⟩ ⟨Nat.le_of_ble_eq_true rfl, Nat.le_of_ble_eq_true rfl⟩ hP hD hS rfl hl rfl (Nat.le_of_ble_eq_true rfl) dL_law_1109 hc (fun r wm9 H locs hr hm0 hm1 hmt hP hD hS => ?_)
  refine lw_C (off := 1299) C0 ⟨dL_law_1112, dL_law_1114, dL_law_1115, dL_law_1118, dL_law_1120, dL_law_1125, dL_law_1127, dL_law_1130, dL_law_1131, dL_law_1132, dL_law_1133, dL_law_1135, dL_law_1136, dL_law_1137, dL_law_1142, by decide⟩ hmt hz hr hw9.1 hP hl rfl rfl rfl rfl rfl hc (fun ls hl => ?_)
  have hl := lv_sub hl [2, 3, 4, 5, 6] rfl
  refine kk z w9 wm9 H locs ls ?_ hP hD hS hl
  by_cases hk : kA (aCrack Q (yI xs (i + 1)) (yI xs (i + 2))).1 1 2 3 = 0
  · exact ⟨_, _, _, _, _, _, _, _, hw9.2.2.1 hk, hm0 hk⟩
  · exact ⟨_, _, _, _, _, _, _, _, hw9.2.2.2 hk, hm1 hk⟩

set_option maxRecDepth 100000 in
theorem lc_seal (hst : l.stackTraces = false) (C0 : LC p s m meth c b L xs g τ A) {i : Nat} (hi : i + 6 ≤ L) (hj : JW τ x mm w wm) (hP : va_P g vwCl ([outC oa z τ] ++ (w ++ wm)) H) (hD : va_D A ([outC oa z τ] ++ (w ++ wm))) (hS : va_S A s.heap H locs) (hl : lv_has ls 7 [(4, .int (iI (i : Int))), (3, .ref oa), (2, .ref mm), (1, .ref x), (0, .ref b)]) (hc : cells + 1 ≤ 601024 ∧ slots + 6 ≤ 7293034) (kk : lwK p l e s m below meth c cells slots QQ g τ A x mm oa b i) : W p l e room_1 s m #[Value.ref b] below meth c H locs cells slots QQ (F0 m 1145 ls []) := by
  have hx := C0.1.1
  have hb := C0.1.2.1
  obtain ⟨Q, n, B, V, K, t, S, k0, hcw, hmw⟩ := hj
  obtain ⟨w0, hp0, hM⟩ := f_seal l hst g τ x oa z hcw (yI xs (i + 1)) (yI_r xs (i + 1)) (yI xs (i + 2)) (yI_r xs (i + 2)) (yI xs (i + 3)) (yI_r xs (i + 3)) (yI xs (i + 4)) (yI_r xs (i + 4)) (yI xs (i + 5)) (yI_r xs (i + 5))
  have hN := h_seal l g τ hmw (yI xs (i + 1)) (yI_r xs (i + 1)) (yI xs (i + 2)) (yI_r xs (i + 2)) (yI xs (i + 3)) (yI_r xs (i + 3)) (yI xs (i + 4)) (yI_r xs (i + 4)) (yI xs (i + 5)) (yI_r xs (i + 5))
  refine lv_aload_n hx hb dL_law_1145 rfl (lv_at hl 3 rfl) ?_
  refine la_arg (j := 1) C0 (by omega) rfl 4 0 hl rfl rfl hS dL_law_1146 dL_law_1147 dL_law_1149 dL_law_1150 dL_law_1151 ?_
  refine la_arg (j := 2) C0 (by omega) rfl 4 0 hl rfl rfl hS dL_law_1152 dL_law_1153 dL_law_1155 dL_law_1156 dL_law_1157 ?_
  refine la_arg (j := 3) C0 (by omega) rfl 4 0 hl rfl rfl hS dL_law_1158 dL_law_1159 dL_law_1161 dL_law_1162 dL_law_1163 ?_
  refine la_arg (j := 4) C0 (by omega) rfl 4 0 hl rfl rfl hS dL_law_1164 dL_law_1165 dL_law_1167 dL_law_1168 dL_law_1169 ?_
  refine la_arg (j := 5) C0 (by omega) rfl 4 0 hl rfl rfl hS dL_law_1170 dL_law_1171 dL_law_1173 dL_law_1174 dL_law_1175 ?_
  refine lv_aload_n hx hb dL_law_1176 rfl (lv_at hl 1 rfl) ?_
  refine lw_A (P := W3 (kA (aSeal Q (yI xs (i + 1)) (yI xs (i + 2)) (yI xs (i + 3)) (yI xs (i + 4)) (yI xs (i + 5))).1 1 2 3) (Wn w0 (kA (aSeal Q (yI xs (i + 1)) (yI xs (i + 2)) (yI xs (i + 3)) (yI xs (i + 4)) (yI xs (i + 5))).1 1 2 3) (CW τ x (aSeal Q (yI xs (i + 1)) (yI xs (i + 2)) (yI xs (i + 3)) (yI xs (i + 4)) (yI xs (i + 5))).2 (mN n) (rmB n B Q).2 V K t S) (CW τ x Q n B V K t S))) C0 hM hp0 (fun w1 h => h.2.1) gl_L_seal cd_L_seal rfl ⟨rfl, rfl⟩ ⟨Nat.le_of_ble_eq_true rfl, Nat.le_of_ble_eq_true rfl⟩ hP hD hS rfl hl rfl dL_law_1177 dL_law_1180 hc rfl (fun z w9 H locs ls hz hw9 hP hD hS hl => ?_)
  refine lv_aload_n hx hb dL_law_1182 rfl (lv_at hl 3 rfl) ?_
  refine la_arg (j := 1) C0 (by omega) rfl 5 1 hl rfl rfl hS dL_law_1183 dL_law_1184 dL_law_1186 dL_law_1187 dL_law_1188 ?_
  refine la_arg (j := 2) C0 (by omega) rfl 5 1 hl rfl rfl hS dL_law_1189 dL_law_1190 dL_law_1192 dL_law_1193 dL_law_1194 ?_
  refine la_arg (j := 3) C0 (by omega) rfl 5 1 hl rfl rfl hS dL_law_1195 dL_law_1196 dL_law_1198 dL_law_1199 dL_law_1200 ?_
  refine la_arg (j := 4) C0 (by omega) rfl 5 1 hl rfl rfl hS dL_law_1201 dL_law_1202 dL_law_1204 dL_law_1205 dL_law_1206 ?_
  refine la_arg (j := 5) C0 (by omega) rfl 5 1 hl rfl rfl hS dL_law_1207 dL_law_1208 dL_law_1210 dL_law_1211 dL_law_1212 ?_
  refine lw_M (P := fun _ => True) (rest := []) C0 hmw hN gl_X10_seal cd_X10_seal rfl rfl ⟨rfl, rfl⟩ ⟨Nat.le_of_ble_eq_true rfl, Nat.le_of_ble_eq_true rfl⟩ hP hD hS rfl hl rfl (Nat.le_of_ble_eq_true rfl) dL_law_1213 hc (fun r wm9 H locs hr hm0 hm1 hmt hP hD hS => ?_)
  refine lw_C (off := 1195) C0 ⟨dL_law_1216, dL_law_1218, dL_law_1219, dL_law_1222, dL_law_1224, dL_law_1229, dL_law_1231, dL_law_1234, dL_law_1235, dL_law_1236, dL_law_1237, dL_law_1239, dL_law_1240, dL_law_1241, dL_law_1246, by decide⟩ hmt hz hr hw9.1 hP hl rfl rfl rfl rfl rfl hc (fun ls hl => ?_)
  have hl := lv_sub hl [2, 3, 4, 5, 6] rfl
  refine kk z w9 wm9 H locs ls ?_ hP hD hS hl
  by_cases hk : kA (aSeal Q (yI xs (i + 1)) (yI xs (i + 2)) (yI xs (i + 3)) (yI xs (i + 4)) (yI xs (i + 5))).1 1 2 3 = 0
  · exact ⟨_, _, _, _, _, _, _, _, hw9.2.2.1 hk, hm0 hk⟩
  · exact ⟨_, _, _, _, _, _, _, _, hw9.2.2.2 hk, hm1 hk⟩

set_option maxRecDepth 100000 in
theorem lc_show (hst : l.stackTraces = false) (C0 : LC p s m meth c b L xs g τ A) {i : Nat} (hi : i + 6 ≤ L) (hj : JW τ x mm w wm) (hP : va_P g vwCl ([outC oa z τ] ++ (w ++ wm)) H) (hD : va_D A ([outC oa z τ] ++ (w ++ wm))) (hS : va_S A s.heap H locs) (hl : lv_has ls 7 [(4, .int (iI (i : Int))), (3, .ref oa), (2, .ref mm), (1, .ref x), (0, .ref b)]) (hc : cells + 1 ≤ 601024 ∧ slots + 6 ≤ 7293034) (kk : lwK p l e s m below meth c cells slots QQ g τ A x mm oa b i) : W p l e room_1 s m #[Value.ref b] below meth c H locs cells slots QQ (F0 m 1249 ls []) := by
  have hx := C0.1.1
  have hb := C0.1.2.1
  obtain ⟨Q, n, B, V, K, t, S, k0, hcw, hmw⟩ := hj
  obtain ⟨w0, hp0, hM⟩ := f_show l hst g τ x oa z hcw (yI xs (i + 1)) (yI_r xs (i + 1)) (yI xs (i + 2)) (yI_r xs (i + 2))
  have hN := h_show l g τ hmw (yI xs (i + 1)) (yI_r xs (i + 1)) (yI xs (i + 2)) (yI_r xs (i + 2))
  refine lv_aload_n hx hb dL_law_1249 rfl (lv_at hl 3 rfl) ?_
  refine la_arg (j := 1) C0 (by omega) rfl 4 0 hl rfl rfl hS dL_law_1250 dL_law_1251 dL_law_1253 dL_law_1254 dL_law_1255 ?_
  refine la_arg (j := 2) C0 (by omega) rfl 4 0 hl rfl rfl hS dL_law_1256 dL_law_1257 dL_law_1259 dL_law_1260 dL_law_1261 ?_
  refine lv_aload_n hx hb dL_law_1262 rfl (lv_at hl 1 rfl) ?_
  refine lw_A (P := W3 (kA (aShow Q (yI xs (i + 1)) (yI xs (i + 2))).1 1 2 0) (Wn w0 (kA (aShow Q (yI xs (i + 1)) (yI xs (i + 2))).1 1 2 0) (CW τ x (aShow Q (yI xs (i + 1)) (yI xs (i + 2))).2 (mN n) (rmB n B Q).2 V K t S) (CW τ x Q n B V K t S))) C0 hM hp0 (fun w1 h => h.2.1) gl_L_show cd_L_show rfl ⟨rfl, rfl⟩ ⟨Nat.le_of_ble_eq_true rfl, Nat.le_of_ble_eq_true rfl⟩ hP hD hS rfl hl rfl dL_law_1263 dL_law_1266 hc rfl (fun z w9 H locs ls hz hw9 hP hD hS hl => ?_)
  refine lv_aload_n hx hb dL_law_1268 rfl (lv_at hl 3 rfl) ?_
  refine la_arg (j := 1) C0 (by omega) rfl 5 1 hl rfl rfl hS dL_law_1269 dL_law_1270 dL_law_1272 dL_law_1273 dL_law_1274 ?_
  refine la_arg (j := 2) C0 (by omega) rfl 5 1 hl rfl rfl hS dL_law_1275 dL_law_1276 dL_law_1278 dL_law_1279 dL_law_1280 ?_
  refine lw_M (P := fun _ => True) (rest := []) C0 hmw hN gl_X10_show cd_X10_show rfl rfl ⟨rfl, rfl⟩ ⟨Nat.le_of_ble_eq_true rfl, Nat.le_of_ble_eq_true rfl⟩ hP hD hS rfl hl rfl (Nat.le_of_ble_eq_true rfl) dL_law_1281 hc (fun r wm9 H locs hr hm0 hm1 hmt hP hD hS => ?_)
  refine lw_C (off := 1127) C0 ⟨dL_law_1284, dL_law_1286, dL_law_1287, dL_law_1290, dL_law_1292, dL_law_1297, dL_law_1299, dL_law_1302, dL_law_1303, dL_law_1304, dL_law_1305, dL_law_1307, dL_law_1308, dL_law_1309, dL_law_1314, by decide⟩ hmt hz hr hw9.1 hP hl rfl rfl rfl rfl rfl hc (fun ls hl => ?_)
  have hl := lv_sub hl [2, 3, 4, 5, 6] rfl
  refine kk z w9 wm9 H locs ls ?_ hP hD hS hl
  by_cases hk : kA (aShow Q (yI xs (i + 1)) (yI xs (i + 2))).1 1 2 0 = 0
  · exact ⟨_, _, _, _, _, _, _, _, hw9.2.2.1 hk, hm0 hk⟩
  · exact ⟨_, _, _, _, _, _, _, _, hw9.2.2.2 hk, hm1 hk⟩
end LAWC
