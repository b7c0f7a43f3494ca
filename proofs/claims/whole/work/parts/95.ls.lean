/-! the statics of the law -/
theorem cd_L_append : cd yL_append 3 := by decide +kernel
set_option maxRecDepth 100000 in
theorem c_L_append (l : Launch) (g : va_G) (τ : Nat → ClassId) (x oa : Nat) (z0 : Int64) (wc : va_W) (Z : Option Value → va_W → Prop) (Zx : String → va_W → Prop) (a1 : Int) (fs : List Value) (hfs : wc[0]? = some (x, .inr (9, fs))) (hM : uMet l yX9_append wsX9_append { frames := 7, cells := 1, slots := 6, locals := 110 } g τ [Value.ref x, Value.int (iI a1)] wc Z Zx) (hf : ∀ v w1, Z v w1 → w1.map Prod.fst = wc.map Prod.fst) (hfx : ∀ E w1, Zx E w1 → w1.map Prod.fst = wc.map Prod.fst) (hE : ∀ E w1, Zx E w1 → E = nIA ∨ E = nIS) (hint : ∀ v w1, Z v w1 → ∃ z : Int32, v = some (.int z)) : qMet l yL_append wsL_append { frames := 8, cells := 1, slots := 6, locals := 131 } g τ [Value.ref x, Value.int (iI a1), Value.ref oa] ([outC oa z0 τ] ++ wc) (fun v w => LR Z oa τ v w ∨ LX Zx nIA 1 oa z0 τ v w ∨ LX Zx nIS 2 oa z0 τ v w) := by
  refine qMet_of (cc := cL_append) (maxL := 4) (ret := some .int) (hh := [(0, 9, 12, 13), (0, 9, 15, 15)]) (lv := [(0, Value.ref x), (1, Value.int (iI a1)), (2, Value.ref oa)]) (by decide) rfl (Nat.le_of_ble_eq_true rfl) rfl ?_
  intro p e s m below meth c hx hb hr hml hts hown hlocks htab A H hP hD hS hK hZT hZU hZC ls hl
  refine lv_aload_n hx hb dL_append_0 rfl (lv_at hl 2 rfl) ?_
  refine lv_iconst (v := iI 0) hx hb dL_append_1 (by decide) ?_
  refine lv_aload_n hx hb dL_append_2 rfl (lv_at hl 0 rfl) ?_
  refine lv_iload_n hx hb dL_append_3 rfl (lv_at hl 1 rfl) ?_
  refine ru_V (As := [Value.int (iI a1)]) (rest := [Value.int (iI 0), Value.ref oa]) (wr := [outC oa z0 τ]) ⟨hx, hb, hml, hown, hts⟩ hM gL_append_X9_append cd_X9_append rfl rfl ⟨rfl, rfl⟩ ⟨Nat.le_of_ble_eq_true rfl, Nat.le_of_ble_eq_true rfl⟩ hK hZT hZU hP hD hS (List.perm_append_comm (l₁ := [outC oa z0 τ])) 0 hfs rfl rfl rfl hl rfl (Nat.le_of_ble_eq_true rfl) dL_append_4 ⟨Nat.le_of_ble_eq_true rfl, Nat.le_of_ble_eq_true rfl⟩ hf hfx (fun E w1 H locs q9 ce9 hZ hP hD hS y1 y2 y3 => ?_) (fun v w1 H locs hZ hP hD hS => ?_)
  · have hP := hP.pm (List.perm_append_comm (l₂ := [outC oa z0 τ]))
    rcases hE _ _ hZ with rfl | rfl
    · refine vx_catch (E := nIA) (name := nIA) hown (tableOf []) ⟨0, 9, 12, 13⟩ (tableOf [(0, 9, 15, 15)]) htab (fun z hz => nomatch hz) rfl (by decide) (hts _ (List.mem_of_getElem? (i := 1) rfl) : (Cond.classLink RL 13 "java/lang/IllegalArgumentException").before _ s = true) (hZT.2 _ (xB_c _ (by decide)) _) y1 y2 y3 ?_
      refine W.eq (g2 := F0 m 12 ls [Value.ref q9]) rfl ?_
      refine lv_astore_n (lv' := (3, Value.ref q9) :: [(0, Value.ref x), (1, Value.int (iI a1)), (2, Value.ref oa)]) hx hb dL_append_12 rfl hl (by decide) rfl (fun ls hl => ?_)
      refine lv_iconst (v := iI 1) hx hb dL_append_13 (by decide) ?_
      exact q_iret hx hb hr hlocks hP hS ⟨Nat.le_of_ble_eq_true rfl, Nat.le_of_ble_eq_true rfl⟩ (Or.inr (Or.inl ⟨w1, hZ, rfl, rfl⟩)) dL_append_14
    · refine vx_catch (E := nIS) (name := nIS) hown (tableOf [(0, 9, 12, 13)]) ⟨0, 9, 15, 15⟩ (tableOf []) htab (fun z hz => by
        rcases List.mem_cons.mp hz with rfl | hz
        · exact Or.inr ⟨by decide, nIA, (hts _ (List.mem_of_getElem? (i := 1) rfl) : (Cond.classLink RL 13 "java/lang/IllegalArgumentException").before _ s = true), hZC _ (by decide : (nIS, nIA) ∈ ncL)⟩
        cases hz) rfl (by decide) (hts _ (List.mem_of_getElem? (i := 2) rfl) : (Cond.classLink RL 15 "java/lang/IllegalStateException").before _ s = true) (hZT.2 _ (xB_c _ (by decide)) _) y1 y2 y3 ?_
      refine W.eq (g2 := F0 m 15 ls [Value.ref q9]) rfl ?_
      refine lv_astore_n (lv' := (3, Value.ref q9) :: [(0, Value.ref x), (1, Value.int (iI a1)), (2, Value.ref oa)]) hx hb dL_append_15 rfl hl (by decide) rfl (fun ls hl => ?_)
      refine lv_iconst (v := iI 2) hx hb dL_append_16 (by decide) ?_
      exact q_iret hx hb hr hlocks hP hS ⟨Nat.le_of_ble_eq_true rfl, Nat.le_of_ble_eq_true rfl⟩ (Or.inr (Or.inr (⟨w1, hZ, rfl, rfl⟩))) dL_append_17
  · have hP := hP.pm (List.perm_append_comm (l₂ := [outC oa z0 τ]))
    have hD := hD.pm (List.perm_append_comm (l₂ := [outC oa z0 τ]))
    obtain ⟨z, rfl⟩ := hint _ _ hZ
    refine tl_some ?_
    refine lv_i2l (v := z.toInt64) hx hb dL_append_7 rfl ?_
    refine q_last hx hb hK hP hD hS dL_append_8 (fun H locs hP hD hS => ?_)
    refine lv_goto (tgt := 18) hx hb dL_append_9 (by decide) ?_
    refine lv_iconst (v := iI 0) hx hb dL_append_18 (by decide) ?_
    exact q_iret hx hb hr hlocks hP hS ⟨Nat.le_of_ble_eq_true rfl, Nat.le_of_ble_eq_true rfl⟩ (Or.inl ⟨z, w1, hZ, rfl, rfl⟩) dL_append_19

theorem cd_L_load : cd yL_load 2 := by decide +kernel
set_option maxRecDepth 100000 in
theorem c_L_load (l : Launch) (g : va_G) (τ : Nat → ClassId) (x oa : Nat) (z0 : Int64) (wc : va_W) (Z : Option Value → va_W → Prop) (Zx : String → va_W → Prop) (fs : List Value) (hfs : wc[0]? = some (x, .inr (9, fs))) (hM : uMet l yX9_load wsX9_load { frames := 7, cells := 1, slots := 6, locals := 148 } g τ [Value.ref x] wc Z Zx) (hf : ∀ v w1, Z v w1 → w1.map Prod.fst = wc.map Prod.fst) (hfx : ∀ E w1, Zx E w1 → w1.map Prod.fst = wc.map Prod.fst) (hE : ∀ E w1, Zx E w1 → E = nIS) (hint : ∀ v w1, Z v w1 → ∃ z : Int32, v = some (.int z)) : qMet l yL_load wsL_load { frames := 8, cells := 1, slots := 6, locals := 169 } g τ [Value.ref x, Value.ref oa] ([outC oa z0 τ] ++ wc) (fun v w => LR Z oa τ v w ∨ LX Zx nIS 1 oa z0 τ v w) := by
  refine qMet_of (cc := cL_load) (maxL := 3) (ret := some .int) (hh := [(0, 8, 11, 15)]) (lv := [(0, Value.ref x), (1, Value.ref oa)]) (by decide) rfl (Nat.le_of_ble_eq_true rfl) rfl ?_
  intro p e s m below meth c hx hb hr hml hts hown hlocks htab A H hP hD hS hK hZT hZU hZC ls hl
  refine lv_aload_n hx hb dL_load_0 rfl (lv_at hl 1 rfl) ?_
  refine lv_iconst (v := iI 0) hx hb dL_load_1 (by decide) ?_
  refine lv_aload_n hx hb dL_load_2 rfl (lv_at hl 0 rfl) ?_
  refine ru_V (As := []) (rest := [Value.int (iI 0), Value.ref oa]) (wr := [outC oa z0 τ]) ⟨hx, hb, hml, hown, hts⟩ hM gL_load_X9_load cd_X9_load rfl rfl ⟨rfl, rfl⟩ ⟨Nat.le_of_ble_eq_true rfl, Nat.le_of_ble_eq_true rfl⟩ hK hZT hZU hP hD hS (List.perm_append_comm (l₁ := [outC oa z0 τ])) 0 hfs rfl rfl rfl hl rfl (Nat.le_of_ble_eq_true rfl) dL_load_3 ⟨Nat.le_of_ble_eq_true rfl, Nat.le_of_ble_eq_true rfl⟩ hf hfx (fun E w1 H locs q9 ce9 hZ hP hD hS y1 y2 y3 => ?_) (fun v w1 H locs hZ hP hD hS => ?_)
  · have hP := hP.pm (List.perm_append_comm (l₂ := [outC oa z0 τ]))
    have hEr := hE _ _ hZ
    subst hEr
    · refine vx_catch (E := nIS) (name := nIS) hown (tableOf []) ⟨0, 8, 11, 15⟩ (tableOf []) htab (fun z hz => nomatch hz) rfl (by decide) (hts _ (List.mem_of_getElem? (i := 1) rfl) : (Cond.classLink RL 15 "java/lang/IllegalStateException").before _ s = true) (hZT.2 _ (xB_c _ (by decide)) _) y1 y2 y3 ?_
      refine W.eq (g2 := F0 m 11 ls [Value.ref q9]) rfl ?_
      refine lv_astore_n (lv' := (2, Value.ref q9) :: [(0, Value.ref x), (1, Value.ref oa)]) hx hb dL_load_11 rfl hl (by decide) rfl (fun ls hl => ?_)
      refine lv_iconst (v := iI 1) hx hb dL_load_12 (by decide) ?_
      exact q_iret hx hb hr hlocks hP hS ⟨Nat.le_of_ble_eq_true rfl, Nat.le_of_ble_eq_true rfl⟩ (Or.inr (⟨w1, hZ, rfl, rfl⟩)) dL_load_13
  · have hP := hP.pm (List.perm_append_comm (l₂ := [outC oa z0 τ]))
    have hD := hD.pm (List.perm_append_comm (l₂ := [outC oa z0 τ]))
    obtain ⟨z, rfl⟩ := hint _ _ hZ
    refine tl_some ?_
    refine lv_i2l (v := z.toInt64) hx hb dL_load_6 rfl ?_
    refine q_last hx hb hK hP hD hS dL_load_7 (fun H locs hP hD hS => ?_)
    refine lv_goto (tgt := 14) hx hb dL_load_8 (by decide) ?_
    refine lv_iconst (v := iI 0) hx hb dL_load_14 (by decide) ?_
    exact q_iret hx hb hr hlocks hP hS ⟨Nat.le_of_ble_eq_true rfl, Nat.le_of_ble_eq_true rfl⟩ (Or.inl ⟨z, w1, hZ, rfl, rfl⟩) dL_load_15

theorem cd_L_about : cd yL_about 3 := by decide +kernel
set_option maxRecDepth 100000 in
theorem c_L_about (l : Launch) (g : va_G) (τ : Nat → ClassId) (x oa : Nat) (z0 : Int64) (wc : va_W) (Z : Option Value → va_W → Prop) (Zx : String → va_W → Prop) (a1 : Int) (fs : List Value) (hfs : wc[0]? = some (x, .inr (9, fs))) (hM : uMet l yX9_about wsX9_about { frames := 7, cells := 1, slots := 6, locals := 110 } g τ [Value.ref x, Value.int (iI a1)] wc Z Zx) (hf : ∀ v w1, Z v w1 → w1.map Prod.fst = wc.map Prod.fst) (hfx : ∀ E w1, Zx E w1 → w1.map Prod.fst = wc.map Prod.fst) (hE : ∀ E w1, Zx E w1 → E = nIA) (hint : ∀ v w1, Z v w1 → ∃ z : Int32, v = some (.int z)) : qMet l yL_about wsL_about { frames := 8, cells := 1, slots := 6, locals := 131 } g τ [Value.ref x, Value.int (iI a1), Value.ref oa] ([outC oa z0 τ] ++ wc) (fun v w => LR Z oa τ v w ∨ LX Zx nIA 1 oa z0 τ v w) := by
  refine qMet_of (cc := cL_about) (maxL := 4) (ret := some .int) (hh := [(0, 9, 12, 13)]) (lv := [(0, Value.ref x), (1, Value.int (iI a1)), (2, Value.ref oa)]) (by decide) rfl (Nat.le_of_ble_eq_true rfl) rfl ?_
  intro p e s m below meth c hx hb hr hml hts hown hlocks htab A H hP hD hS hK hZT hZU hZC ls hl
  refine lv_aload_n hx hb dL_about_0 rfl (lv_at hl 2 rfl) ?_
  refine lv_iconst (v := iI 0) hx hb dL_about_1 (by decide) ?_
  refine lv_aload_n hx hb dL_about_2 rfl (lv_at hl 0 rfl) ?_
  refine lv_iload_n hx hb dL_about_3 rfl (lv_at hl 1 rfl) ?_
  refine ru_V (As := [Value.int (iI a1)]) (rest := [Value.int (iI 0), Value.ref oa]) (wr := [outC oa z0 τ]) ⟨hx, hb, hml, hown, hts⟩ hM gL_about_X9_about cd_X9_about rfl rfl ⟨rfl, rfl⟩ ⟨Nat.le_of_ble_eq_true rfl, Nat.le_of_ble_eq_true rfl⟩ hK hZT hZU hP hD hS (List.perm_append_comm (l₁ := [outC oa z0 τ])) 0 hfs rfl rfl rfl hl rfl (Nat.le_of_ble_eq_true rfl) dL_about_4 ⟨Nat.le_of_ble_eq_true rfl, Nat.le_of_ble_eq_true rfl⟩ hf hfx (fun E w1 H locs q9 ce9 hZ hP hD hS y1 y2 y3 => ?_) (fun v w1 H locs hZ hP hD hS => ?_)
  · have hP := hP.pm (List.perm_append_comm (l₂ := [outC oa z0 τ]))
    have hEr := hE _ _ hZ
    subst hEr
    · refine vx_catch (E := nIA) (name := nIA) hown (tableOf []) ⟨0, 9, 12, 13⟩ (tableOf []) htab (fun z hz => nomatch hz) rfl (by decide) (hts _ (List.mem_of_getElem? (i := 1) rfl) : (Cond.classLink RL 13 "java/lang/IllegalArgumentException").before _ s = true) (hZT.2 _ (xB_c _ (by decide)) _) y1 y2 y3 ?_
      refine W.eq (g2 := F0 m 12 ls [Value.ref q9]) rfl ?_
      refine lv_astore_n (lv' := (3, Value.ref q9) :: [(0, Value.ref x), (1, Value.int (iI a1)), (2, Value.ref oa)]) hx hb dL_about_12 rfl hl (by decide) rfl (fun ls hl => ?_)
      refine lv_iconst (v := iI 1) hx hb dL_about_13 (by decide) ?_
      exact q_iret hx hb hr hlocks hP hS ⟨Nat.le_of_ble_eq_true rfl, Nat.le_of_ble_eq_true rfl⟩ (Or.inr (⟨w1, hZ, rfl, rfl⟩)) dL_about_14
  · have hP := hP.pm (List.perm_append_comm (l₂ := [outC oa z0 τ]))
    have hD := hD.pm (List.perm_append_comm (l₂ := [outC oa z0 τ]))
    obtain ⟨z, rfl⟩ := hint _ _ hZ
    refine tl_some ?_
    refine lv_i2l (v := z.toInt64) hx hb dL_about_7 rfl ?_
    refine q_last hx hb hK hP hD hS dL_about_8 (fun H locs hP hD hS => ?_)
    refine lv_goto (tgt := 15) hx hb dL_about_9 (by decide) ?_
    refine lv_iconst (v := iI 0) hx hb dL_about_15 (by decide) ?_
    exact q_iret hx hb hr hlocks hP hS ⟨Nat.le_of_ble_eq_true rfl, Nat.le_of_ble_eq_true rfl⟩ (Or.inl ⟨z, w1, hZ, rfl, rfl⟩) dL_about_16

theorem cd_L_ofReign : cd yL_ofReign 4 := by decide +kernel
set_option maxRecDepth 100000 in
theorem c_L_ofReign (l : Launch) (g : va_G) (τ : Nat → ClassId) (x oa : Nat) (z0 : Int64) (wc : va_W) (Z : Option Value → va_W → Prop) (Zx : String → va_W → Prop) (a1 : Int) (a2 : Int) (fs : List Value) (hfs : wc[0]? = some (x, .inr (9, fs))) (hM : uMet l yX9_ofReign wsX9_ofReign { frames := 7, cells := 1, slots := 6, locals := 110 } g τ [Value.ref x, Value.int (iI a1), Value.int (iI a2)] wc Z Zx) (hf : ∀ v w1, Z v w1 → w1.map Prod.fst = wc.map Prod.fst) (hfx : ∀ E w1, Zx E w1 → w1.map Prod.fst = wc.map Prod.fst) (hE : ∀ E w1, Zx E w1 → E = nIO ∨ E = nIA) (hint : ∀ v w1, Z v w1 → ∃ z : Int32, v = some (.int z)) : qMet l yL_ofReign wsL_ofReign { frames := 8, cells := 1, slots := 6, locals := 132 } g τ [Value.ref x, Value.int (iI a1), Value.int (iI a2), Value.ref oa] ([outC oa z0 τ] ++ wc) (fun v w => LR Z oa τ v w ∨ LX Zx nIO 1 oa z0 τ v w ∨ LX Zx nIA 2 oa z0 τ v w) := by
  refine qMet_of (cc := cL_ofReign) (maxL := 5) (ret := some .int) (hh := [(0, 10, 13, 28), (0, 10, 17, 13)]) (lv := [(0, Value.ref x), (1, Value.int (iI a1)), (2, Value.int (iI a2)), (3, Value.ref oa)]) (by decide) rfl (Nat.le_of_ble_eq_true rfl) rfl ?_
  intro p e s m below meth c hx hb hr hml hts hown hlocks htab A H hP hD hS hK hZT hZU hZC ls hl
  refine lv_aload_n hx hb dL_ofReign_0 rfl (lv_at hl 3 rfl) ?_
  refine lv_iconst (v := iI 0) hx hb dL_ofReign_1 (by decide) ?_
  refine lv_aload_n hx hb dL_ofReign_2 rfl (lv_at hl 0 rfl) ?_
  refine lv_iload_n hx hb dL_ofReign_3 rfl (lv_at hl 1 rfl) ?_
  refine lv_iload_n hx hb dL_ofReign_4 rfl (lv_at hl 2 rfl) ?_
  refine ru_V (As := [Value.int (iI a1), Value.int (iI a2)]) (rest := [Value.int (iI 0), Value.ref oa]) (wr := [outC oa z0 τ]) ⟨hx, hb, hml, hown, hts⟩ hM gL_ofReign_X9_ofReign cd_X9_ofReign rfl rfl ⟨rfl, rfl⟩ ⟨Nat.le_of_ble_eq_true rfl, Nat.le_of_ble_eq_true rfl⟩ hK hZT hZU hP hD hS (List.perm_append_comm (l₁ := [outC oa z0 τ])) 0 hfs rfl rfl rfl hl rfl (Nat.le_of_ble_eq_true rfl) dL_ofReign_5 ⟨Nat.le_of_ble_eq_true rfl, Nat.le_of_ble_eq_true rfl⟩ hf hfx (fun E w1 H locs q9 ce9 hZ hP hD hS y1 y2 y3 => ?_) (fun v w1 H locs hZ hP hD hS => ?_)
  · have hP := hP.pm (List.perm_append_comm (l₂ := [outC oa z0 τ]))
    rcases hE _ _ hZ with rfl | rfl
    · refine vx_catch (E := nIO) (name := nIO) hown (tableOf []) ⟨0, 10, 13, 28⟩ (tableOf [(0, 10, 17, 13)]) htab (fun z hz => nomatch hz) rfl (by decide) (hts _ (List.mem_of_getElem? (i := 1) rfl) : (Cond.classLink RL 28 "java/lang/IndexOutOfBoundsException").before _ s = true) (hZT.2 _ (xB_c _ (by decide)) _) y1 y2 y3 ?_
      refine W.eq (g2 := F0 m 13 ls [Value.ref q9]) rfl ?_
      refine lv_astore (lv' := (4, Value.ref q9) :: [(0, Value.ref x), (1, Value.int (iI a1)), (2, Value.int (iI a2)), (3, Value.ref oa)]) hx hb dL_ofReign_13 hl (by decide) rfl (fun ls hl => ?_)
      refine lv_iconst (v := iI 1) hx hb dL_ofReign_15 (by decide) ?_
      exact q_iret hx hb hr hlocks hP hS ⟨Nat.le_of_ble_eq_true rfl, Nat.le_of_ble_eq_true rfl⟩ (Or.inr (Or.inl ⟨w1, hZ, rfl, rfl⟩)) dL_ofReign_16
    · refine vx_catch (E := nIA) (name := nIA) hown (tableOf [(0, 10, 13, 28)]) ⟨0, 10, 17, 13⟩ (tableOf []) htab (fun z hz => by
        rcases List.mem_cons.mp hz with rfl | hz
        · exact Or.inr ⟨by decide, nIO, (hts _ (List.mem_of_getElem? (i := 1) rfl) : (Cond.classLink RL 28 "java/lang/IndexOutOfBoundsException").before _ s = true), hZC _ (by decide : (nIA, nIO) ∈ ncL)⟩
        cases hz) rfl (by decide) (hts _ (List.mem_of_getElem? (i := 2) rfl) : (Cond.classLink RL 13 "java/lang/IllegalArgumentException").before _ s = true) (hZT.2 _ (xB_c _ (by decide)) _) y1 y2 y3 ?_
      refine W.eq (g2 := F0 m 17 ls [Value.ref q9]) rfl ?_
      refine lv_astore (lv' := (4, Value.ref q9) :: [(0, Value.ref x), (1, Value.int (iI a1)), (2, Value.int (iI a2)), (3, Value.ref oa)]) hx hb dL_ofReign_17 hl (by decide) rfl (fun ls hl => ?_)
      refine lv_iconst (v := iI 2) hx hb dL_ofReign_19 (by decide) ?_
      exact q_iret hx hb hr hlocks hP hS ⟨Nat.le_of_ble_eq_true rfl, Nat.le_of_ble_eq_true rfl⟩ (Or.inr (Or.inr (⟨w1, hZ, rfl, rfl⟩))) dL_ofReign_20
  · have hP := hP.pm (List.perm_append_comm (l₂ := [outC oa z0 τ]))
    have hD := hD.pm (List.perm_append_comm (l₂ := [outC oa z0 τ]))
    obtain ⟨z, rfl⟩ := hint _ _ hZ
    refine tl_some ?_
    refine lv_i2l (v := z.toInt64) hx hb dL_ofReign_8 rfl ?_
    refine q_last hx hb hK hP hD hS dL_ofReign_9 (fun H locs hP hD hS => ?_)
    refine lv_goto (tgt := 21) hx hb dL_ofReign_10 (by decide) ?_
    refine lv_iconst (v := iI 0) hx hb dL_ofReign_21 (by decide) ?_
    exact q_iret hx hb hr hlocks hP hS ⟨Nat.le_of_ble_eq_true rfl, Nat.le_of_ble_eq_true rfl⟩ (Or.inl ⟨z, w1, hZ, rfl, rfl⟩) dL_ofReign_22

theorem cd_L_ofDie : cd yL_ofDie 4 := by decide +kernel
set_option maxRecDepth 100000 in
theorem c_L_ofDie (l : Launch) (g : va_G) (τ : Nat → ClassId) (x oa : Nat) (z0 : Int64) (wc : va_W) (Z : Option Value → va_W → Prop) (Zx : String → va_W → Prop) (a1 : Int) (a2 : Int) (fs : List Value) (hfs : wc[0]? = some (x, .inr (9, fs))) (hM : uMet l yX9_ofDie wsX9_ofDie { frames := 7, cells := 1, slots := 6, locals := 110 } g τ [Value.ref x, Value.int (iI a1), Value.int (iI a2)] wc Z Zx) (hf : ∀ v w1, Z v w1 → w1.map Prod.fst = wc.map Prod.fst) (hfx : ∀ E w1, Zx E w1 → w1.map Prod.fst = wc.map Prod.fst) (hE : ∀ E w1, Zx E w1 → E = nIO ∨ E = nIA) (hint : ∀ v w1, Z v w1 → ∃ z : Int32, v = some (.int z)) : qMet l yL_ofDie wsL_ofDie { frames := 8, cells := 1, slots := 6, locals := 132 } g τ [Value.ref x, Value.int (iI a1), Value.int (iI a2), Value.ref oa] ([outC oa z0 τ] ++ wc) (fun v w => LR Z oa τ v w ∨ LX Zx nIO 1 oa z0 τ v w ∨ LX Zx nIA 2 oa z0 τ v w) := by
  refine qMet_of (cc := cL_ofDie) (maxL := 5) (ret := some .int) (hh := [(0, 10, 13, 28), (0, 10, 17, 13)]) (lv := [(0, Value.ref x), (1, Value.int (iI a1)), (2, Value.int (iI a2)), (3, Value.ref oa)]) (by decide) rfl (Nat.le_of_ble_eq_true rfl) rfl ?_
  intro p e s m below meth c hx hb hr hml hts hown hlocks htab A H hP hD hS hK hZT hZU hZC ls hl
  refine lv_aload_n hx hb dL_ofDie_0 rfl (lv_at hl 3 rfl) ?_
  refine lv_iconst (v := iI 0) hx hb dL_ofDie_1 (by decide) ?_
  refine lv_aload_n hx hb dL_ofDie_2 rfl (lv_at hl 0 rfl) ?_
  refine lv_iload_n hx hb dL_ofDie_3 rfl (lv_at hl 1 rfl) ?_
  refine lv_iload_n hx hb dL_ofDie_4 rfl (lv_at hl 2 rfl) ?_
  refine ru_V (As := [Value.int (iI a1), Value.int (iI a2)]) (rest := [Value.int (iI 0), Value.ref oa]) (wr := [outC oa z0 τ]) ⟨hx, hb, hml, hown, hts⟩ hM gL_ofDie_X9_ofDie cd_X9_ofDie rfl rfl ⟨rfl, rfl⟩ ⟨Nat.le_of_ble_eq_true rfl, Nat.le_of_ble_eq_true rfl⟩ hK hZT hZU hP hD hS (List.perm_append_comm (l₁ := [outC oa z0 τ])) 0 hfs rfl rfl rfl hl rfl (Nat.le_of_ble_eq_true rfl) dL_ofDie_5 ⟨Nat.le_of_ble_eq_true rfl, Nat.le_of_ble_eq_true rfl⟩ hf hfx (fun E w1 H locs q9 ce9 hZ hP hD hS y1 y2 y3 => ?_) (fun v w1 H locs hZ hP hD hS => ?_)
  · have hP := hP.pm (List.perm_append_comm (l₂ := [outC oa z0 τ]))
    rcases hE _ _ hZ with rfl | rfl
    · refine vx_catch (E := nIO) (name := nIO) hown (tableOf []) ⟨0, 10, 13, 28⟩ (tableOf [(0, 10, 17, 13)]) htab (fun z hz => nomatch hz) rfl (by decide) (hts _ (List.mem_of_getElem? (i := 1) rfl) : (Cond.classLink RL 28 "java/lang/IndexOutOfBoundsException").before _ s = true) (hZT.2 _ (xB_c _ (by decide)) _) y1 y2 y3 ?_
      refine W.eq (g2 := F0 m 13 ls [Value.ref q9]) rfl ?_
      refine lv_astore (lv' := (4, Value.ref q9) :: [(0, Value.ref x), (1, Value.int (iI a1)), (2, Value.int (iI a2)), (3, Value.ref oa)]) hx hb dL_ofDie_13 hl (by decide) rfl (fun ls hl => ?_)
      refine lv_iconst (v := iI 1) hx hb dL_ofDie_15 (by decide) ?_
      exact q_iret hx hb hr hlocks hP hS ⟨Nat.le_of_ble_eq_true rfl, Nat.le_of_ble_eq_true rfl⟩ (Or.inr (Or.inl ⟨w1, hZ, rfl, rfl⟩)) dL_ofDie_16
    · refine vx_catch (E := nIA) (name := nIA) hown (tableOf [(0, 10, 13, 28)]) ⟨0, 10, 17, 13⟩ (tableOf []) htab (fun z hz => by
        rcases List.mem_cons.mp hz with rfl | hz
        · exact Or.inr ⟨by decide, nIO, (hts _ (List.mem_of_getElem? (i := 1) rfl) : (Cond.classLink RL 28 "java/lang/IndexOutOfBoundsException").before _ s = true), hZC _ (by decide : (nIA, nIO) ∈ ncL)⟩
        cases hz) rfl (by decide) (hts _ (List.mem_of_getElem? (i := 2) rfl) : (Cond.classLink RL 13 "java/lang/IllegalArgumentException").before _ s = true) (hZT.2 _ (xB_c _ (by decide)) _) y1 y2 y3 ?_
      refine W.eq (g2 := F0 m 17 ls [Value.ref q9]) rfl ?_
      refine lv_astore (lv' := (4, Value.ref q9) :: [(0, Value.ref x), (1, Value.int (iI a1)), (2, Value.int (iI a2)), (3, Value.ref oa)]) hx hb dL_ofDie_17 hl (by decide) rfl (fun ls hl => ?_)
      refine lv_iconst (v := iI 2) hx hb dL_ofDie_19 (by decide) ?_
      exact q_iret hx hb hr hlocks hP hS ⟨Nat.le_of_ble_eq_true rfl, Nat.le_of_ble_eq_true rfl⟩ (Or.inr (Or.inr (⟨w1, hZ, rfl, rfl⟩))) dL_ofDie_20
  · have hP := hP.pm (List.perm_append_comm (l₂ := [outC oa z0 τ]))
    have hD := hD.pm (List.perm_append_comm (l₂ := [outC oa z0 τ]))
    obtain ⟨z, rfl⟩ := hint _ _ hZ
    refine tl_some ?_
    refine lv_i2l (v := z.toInt64) hx hb dL_ofDie_8 rfl ?_
    refine q_last hx hb hK hP hD hS dL_ofDie_9 (fun H locs hP hD hS => ?_)
    refine lv_goto (tgt := 21) hx hb dL_ofDie_10 (by decide) ?_
    refine lv_iconst (v := iI 0) hx hb dL_ofDie_21 (by decide) ?_
    exact q_iret hx hb hr hlocks hP hS ⟨Nat.le_of_ble_eq_true rfl, Nat.le_of_ble_eq_true rfl⟩ (Or.inl ⟨z, w1, hZ, rfl, rfl⟩) dL_ofDie_22

theorem cd_L_crackYear : cd yL_crackYear 4 := by decide +kernel
set_option maxRecDepth 100000 in
theorem c_L_crackYear (l : Launch) (g : va_G) (τ : Nat → ClassId) (x oa : Nat) (z0 : Int64) (wc : va_W) (Z : Option Value → va_W → Prop) (Zx : String → va_W → Prop) (a1 : Int) (a2 : Int) (fs : List Value) (hfs : wc[0]? = some (x, .inr (9, fs))) (hM : uMet l yX9_crackYear wsX9_crackYear { frames := 7, cells := 1, slots := 6, locals := 110 } g τ [Value.ref x, Value.int (iI a1), Value.int (iI a2)] wc Z Zx) (hf : ∀ v w1, Z v w1 → w1.map Prod.fst = wc.map Prod.fst) (hfx : ∀ E w1, Zx E w1 → w1.map Prod.fst = wc.map Prod.fst) (hE : ∀ E w1, Zx E w1 → E = nIO) (hint : ∀ v w1, Z v w1 → ∃ z : Int32, v = some (.int z)) : qMet l yL_crackYear wsL_crackYear { frames := 8, cells := 1, slots := 6, locals := 132 } g τ [Value.ref x, Value.int (iI a1), Value.int (iI a2), Value.ref oa] ([outC oa z0 τ] ++ wc) (fun v w => LR Z oa τ v w ∨ LX Zx nIO 1 oa z0 τ v w) := by
  refine qMet_of (cc := cL_crackYear) (maxL := 5) (ret := some .int) (hh := [(0, 10, 13, 28)]) (lv := [(0, Value.ref x), (1, Value.int (iI a1)), (2, Value.int (iI a2)), (3, Value.ref oa)]) (by decide) rfl (Nat.le_of_ble_eq_true rfl) rfl ?_
  intro p e s m below meth c hx hb hr hml hts hown hlocks htab A H hP hD hS hK hZT hZU hZC ls hl
  refine lv_aload_n hx hb dL_crackYear_0 rfl (lv_at hl 3 rfl) ?_
  refine lv_iconst (v := iI 0) hx hb dL_crackYear_1 (by decide) ?_
  refine lv_aload_n hx hb dL_crackYear_2 rfl (lv_at hl 0 rfl) ?_
  refine lv_iload_n hx hb dL_crackYear_3 rfl (lv_at hl 1 rfl) ?_
  refine lv_iload_n hx hb dL_crackYear_4 rfl (lv_at hl 2 rfl) ?_
  refine ru_V (As := [Value.int (iI a1), Value.int (iI a2)]) (rest := [Value.int (iI 0), Value.ref oa]) (wr := [outC oa z0 τ]) ⟨hx, hb, hml, hown, hts⟩ hM gL_crackYear_X9_crackYear cd_X9_crackYear rfl rfl ⟨rfl, rfl⟩ ⟨Nat.le_of_ble_eq_true rfl, Nat.le_of_ble_eq_true rfl⟩ hK hZT hZU hP hD hS (List.perm_append_comm (l₁ := [outC oa z0 τ])) 0 hfs rfl rfl rfl hl rfl (Nat.le_of_ble_eq_true rfl) dL_crackYear_5 ⟨Nat.le_of_ble_eq_true rfl, Nat.le_of_ble_eq_true rfl⟩ hf hfx (fun E w1 H locs q9 ce9 hZ hP hD hS y1 y2 y3 => ?_) (fun v w1 H locs hZ hP hD hS => ?_)
  · have hP := hP.pm (List.perm_append_comm (l₂ := [outC oa z0 τ]))
    have hEr := hE _ _ hZ
    subst hEr
    · refine vx_catch (E := nIO) (name := nIO) hown (tableOf []) ⟨0, 10, 13, 28⟩ (tableOf []) htab (fun z hz => nomatch hz) rfl (by decide) (hts _ (List.mem_of_getElem? (i := 1) rfl) : (Cond.classLink RL 28 "java/lang/IndexOutOfBoundsException").before _ s = true) (hZT.2 _ (xB_c _ (by decide)) _) y1 y2 y3 ?_
      refine W.eq (g2 := F0 m 13 ls [Value.ref q9]) rfl ?_
      refine lv_astore (lv' := (4, Value.ref q9) :: [(0, Value.ref x), (1, Value.int (iI a1)), (2, Value.int (iI a2)), (3, Value.ref oa)]) hx hb dL_crackYear_13 hl (by decide) rfl (fun ls hl => ?_)
      refine lv_iconst (v := iI 1) hx hb dL_crackYear_15 (by decide) ?_
      exact q_iret hx hb hr hlocks hP hS ⟨Nat.le_of_ble_eq_true rfl, Nat.le_of_ble_eq_true rfl⟩ (Or.inr (⟨w1, hZ, rfl, rfl⟩)) dL_crackYear_16
  · have hP := hP.pm (List.perm_append_comm (l₂ := [outC oa z0 τ]))
    have hD := hD.pm (List.perm_append_comm (l₂ := [outC oa z0 τ]))
    obtain ⟨z, rfl⟩ := hint _ _ hZ
    refine tl_some ?_
    refine lv_i2l (v := z.toInt64) hx hb dL_crackYear_8 rfl ?_
    refine q_last hx hb hK hP hD hS dL_crackYear_9 (fun H locs hP hD hS => ?_)
    refine lv_goto (tgt := 17) hx hb dL_crackYear_10 (by decide) ?_
    refine lv_iconst (v := iI 0) hx hb dL_crackYear_17 (by decide) ?_
    exact q_iret hx hb hr hlocks hP hS ⟨Nat.le_of_ble_eq_true rfl, Nat.le_of_ble_eq_true rfl⟩ (Or.inl ⟨z, w1, hZ, rfl, rfl⟩) dL_crackYear_18

theorem cd_L_ofSeal : cd yL_ofSeal 4 := by decide +kernel
set_option maxRecDepth 100000 in
theorem c_L_ofSeal (l : Launch) (g : va_G) (τ : Nat → ClassId) (x oa : Nat) (z0 : Int64) (wc : va_W) (Z : Option Value → va_W → Prop) (Zx : String → va_W → Prop) (a1 : Int) (a2 : Int) (fs : List Value) (hfs : wc[0]? = some (x, .inr (9, fs))) (hM : uMet l yX9_ofSeal wsX9_ofSeal { frames := 7, cells := 1, slots := 6, locals := 110 } g τ [Value.ref x, Value.int (iI a1), Value.int (iI a2)] wc Z Zx) (hf : ∀ v w1, Z v w1 → w1.map Prod.fst = wc.map Prod.fst) (hfx : ∀ E w1, Zx E w1 → w1.map Prod.fst = wc.map Prod.fst) (hE : ∀ E w1, Zx E w1 → E = nIO ∨ E = nIA) (hint : ∀ v w1, Z v w1 → ∃ z : Int32, v = some (.int z)) : qMet l yL_ofSeal wsL_ofSeal { frames := 8, cells := 1, slots := 6, locals := 132 } g τ [Value.ref x, Value.int (iI a1), Value.int (iI a2), Value.ref oa] ([outC oa z0 τ] ++ wc) (fun v w => LR Z oa τ v w ∨ LX Zx nIO 1 oa z0 τ v w ∨ LX Zx nIA 2 oa z0 τ v w) := by
  refine qMet_of (cc := cL_ofSeal) (maxL := 5) (ret := some .int) (hh := [(0, 10, 13, 28), (0, 10, 17, 13)]) (lv := [(0, Value.ref x), (1, Value.int (iI a1)), (2, Value.int (iI a2)), (3, Value.ref oa)]) (by decide) rfl (Nat.le_of_ble_eq_true rfl) rfl ?_
  intro p e s m below meth c hx hb hr hml hts hown hlocks htab A H hP hD hS hK hZT hZU hZC ls hl
  refine lv_aload_n hx hb dL_ofSeal_0 rfl (lv_at hl 3 rfl) ?_
  refine lv_iconst (v := iI 0) hx hb dL_ofSeal_1 (by decide) ?_
  refine lv_aload_n hx hb dL_ofSeal_2 rfl (lv_at hl 0 rfl) ?_
  refine lv_iload_n hx hb dL_ofSeal_3 rfl (lv_at hl 1 rfl) ?_
  refine lv_iload_n hx hb dL_ofSeal_4 rfl (lv_at hl 2 rfl) ?_
  refine ru_V (As := [Value.int (iI a1), Value.int (iI a2)]) (rest := [Value.int (iI 0), Value.ref oa]) (wr := [outC oa z0 τ]) ⟨hx, hb, hml, hown, hts⟩ hM gL_ofSeal_X9_ofSeal cd_X9_ofSeal rfl rfl ⟨rfl, rfl⟩ ⟨Nat.le_of_ble_eq_true rfl, Nat.le_of_ble_eq_true rfl⟩ hK hZT hZU hP hD hS (List.perm_append_comm (l₁ := [outC oa z0 τ])) 0 hfs rfl rfl rfl hl rfl (Nat.le_of_ble_eq_true rfl) dL_ofSeal_5 ⟨Nat.le_of_ble_eq_true rfl, Nat.le_of_ble_eq_true rfl⟩ hf hfx (fun E w1 H locs q9 ce9 hZ hP hD hS y1 y2 y3 => ?_) (fun v w1 H locs hZ hP hD hS => ?_)
  · have hP := hP.pm (List.perm_append_comm (l₂ := [outC oa z0 τ]))
    rcases hE _ _ hZ with rfl | rfl
    · refine vx_catch (E := nIO) (name := nIO) hown (tableOf []) ⟨0, 10, 13, 28⟩ (tableOf [(0, 10, 17, 13)]) htab (fun z hz => nomatch hz) rfl (by decide) (hts _ (List.mem_of_getElem? (i := 1) rfl) : (Cond.classLink RL 28 "java/lang/IndexOutOfBoundsException").before _ s = true) (hZT.2 _ (xB_c _ (by decide)) _) y1 y2 y3 ?_
      refine W.eq (g2 := F0 m 13 ls [Value.ref q9]) rfl ?_
      refine lv_astore (lv' := (4, Value.ref q9) :: [(0, Value.ref x), (1, Value.int (iI a1)), (2, Value.int (iI a2)), (3, Value.ref oa)]) hx hb dL_ofSeal_13 hl (by decide) rfl (fun ls hl => ?_)
      refine lv_iconst (v := iI 1) hx hb dL_ofSeal_15 (by decide) ?_
      exact q_iret hx hb hr hlocks hP hS ⟨Nat.le_of_ble_eq_true rfl, Nat.le_of_ble_eq_true rfl⟩ (Or.inr (Or.inl ⟨w1, hZ, rfl, rfl⟩)) dL_ofSeal_16
    · refine vx_catch (E := nIA) (name := nIA) hown (tableOf [(0, 10, 13, 28)]) ⟨0, 10, 17, 13⟩ (tableOf []) htab (fun z hz => by
        rcases List.mem_cons.mp hz with rfl | hz
        · exact Or.inr ⟨by decide, nIO, (hts _ (List.mem_of_getElem? (i := 1) rfl) : (Cond.classLink RL 28 "java/lang/IndexOutOfBoundsException").before _ s = true), hZC _ (by decide : (nIA, nIO) ∈ ncL)⟩
        cases hz) rfl (by decide) (hts _ (List.mem_of_getElem? (i := 2) rfl) : (Cond.classLink RL 13 "java/lang/IllegalArgumentException").before _ s = true) (hZT.2 _ (xB_c _ (by decide)) _) y1 y2 y3 ?_
      refine W.eq (g2 := F0 m 17 ls [Value.ref q9]) rfl ?_
      refine lv_astore (lv' := (4, Value.ref q9) :: [(0, Value.ref x), (1, Value.int (iI a1)), (2, Value.int (iI a2)), (3, Value.ref oa)]) hx hb dL_ofSeal_17 hl (by decide) rfl (fun ls hl => ?_)
      refine lv_iconst (v := iI 2) hx hb dL_ofSeal_19 (by decide) ?_
      exact q_iret hx hb hr hlocks hP hS ⟨Nat.le_of_ble_eq_true rfl, Nat.le_of_ble_eq_true rfl⟩ (Or.inr (Or.inr (⟨w1, hZ, rfl, rfl⟩))) dL_ofSeal_20
  · have hP := hP.pm (List.perm_append_comm (l₂ := [outC oa z0 τ]))
    have hD := hD.pm (List.perm_append_comm (l₂ := [outC oa z0 τ]))
    obtain ⟨z, rfl⟩ := hint _ _ hZ
    refine tl_some ?_
    refine lv_i2l (v := z.toInt64) hx hb dL_ofSeal_8 rfl ?_
    refine q_last hx hb hK hP hD hS dL_ofSeal_9 (fun H locs hP hD hS => ?_)
    refine lv_goto (tgt := 21) hx hb dL_ofSeal_10 (by decide) ?_
    refine lv_iconst (v := iI 0) hx hb dL_ofSeal_21 (by decide) ?_
    exact q_iret hx hb hr hlocks hP hS ⟨Nat.le_of_ble_eq_true rfl, Nat.le_of_ble_eq_true rfl⟩ (Or.inl ⟨z, w1, hZ, rfl, rfl⟩) dL_ofSeal_22

theorem cd_L_dated : cd yL_dated 4 := by decide +kernel
set_option maxRecDepth 100000 in
theorem c_L_dated (l : Launch) (g : va_G) (τ : Nat → ClassId) (x oa : Nat) (z0 : Int64) (wc : va_W) (Z : Option Value → va_W → Prop) (Zx : String → va_W → Prop) (a1 : Int) (a2 : Int) (fs : List Value) (hfs : wc[0]? = some (x, .inr (9, fs))) (hM : uMet l yX9_dated wsX9_dated { frames := 7, cells := 1, slots := 6, locals := 110 } g τ [Value.ref x, Value.int (iI a1), Value.int (iI a2)] wc Z Zx) (hf : ∀ v w1, Z v w1 → w1.map Prod.fst = wc.map Prod.fst) (hfx : ∀ E w1, Zx E w1 → w1.map Prod.fst = wc.map Prod.fst) (hE : ∀ E w1, Zx E w1 → E = nIO ∨ E = nIA) (hint : ∀ v w1, Z v w1 → ∃ z : Int32, v = some (.int z)) : qMet l yL_dated wsL_dated { frames := 8, cells := 1, slots := 6, locals := 132 } g τ [Value.ref x, Value.int (iI a1), Value.int (iI a2), Value.ref oa] ([outC oa z0 τ] ++ wc) (fun v w => LR Z oa τ v w ∨ LX Zx nIO 1 oa z0 τ v w ∨ LX Zx nIA 2 oa z0 τ v w) := by
  refine qMet_of (cc := cL_dated) (maxL := 5) (ret := some .int) (hh := [(0, 10, 13, 28), (0, 10, 17, 13)]) (lv := [(0, Value.ref x), (1, Value.int (iI a1)), (2, Value.int (iI a2)), (3, Value.ref oa)]) (by decide) rfl (Nat.le_of_ble_eq_true rfl) rfl ?_
  intro p e s m below meth c hx hb hr hml hts hown hlocks htab A H hP hD hS hK hZT hZU hZC ls hl
  refine lv_aload_n hx hb dL_dated_0 rfl (lv_at hl 3 rfl) ?_
  refine lv_iconst (v := iI 0) hx hb dL_dated_1 (by decide) ?_
  refine lv_aload_n hx hb dL_dated_2 rfl (lv_at hl 0 rfl) ?_
  refine lv_iload_n hx hb dL_dated_3 rfl (lv_at hl 1 rfl) ?_
  refine lv_iload_n hx hb dL_dated_4 rfl (lv_at hl 2 rfl) ?_
  refine ru_V (As := [Value.int (iI a1), Value.int (iI a2)]) (rest := [Value.int (iI 0), Value.ref oa]) (wr := [outC oa z0 τ]) ⟨hx, hb, hml, hown, hts⟩ hM gL_dated_X9_dated cd_X9_dated rfl rfl ⟨rfl, rfl⟩ ⟨Nat.le_of_ble_eq_true rfl, Nat.le_of_ble_eq_true rfl⟩ hK hZT hZU hP hD hS (List.perm_append_comm (l₁ := [outC oa z0 τ])) 0 hfs rfl rfl rfl hl rfl (Nat.le_of_ble_eq_true rfl) dL_dated_5 ⟨Nat.le_of_ble_eq_true rfl, Nat.le_of_ble_eq_true rfl⟩ hf hfx (fun E w1 H locs q9 ce9 hZ hP hD hS y1 y2 y3 => ?_) (fun v w1 H locs hZ hP hD hS => ?_)
  · have hP := hP.pm (List.perm_append_comm (l₂ := [outC oa z0 τ]))
    rcases hE _ _ hZ with rfl | rfl
    · refine vx_catch (E := nIO) (name := nIO) hown (tableOf []) ⟨0, 10, 13, 28⟩ (tableOf [(0, 10, 17, 13)]) htab (fun z hz => nomatch hz) rfl (by decide) (hts _ (List.mem_of_getElem? (i := 1) rfl) : (Cond.classLink RL 28 "java/lang/IndexOutOfBoundsException").before _ s = true) (hZT.2 _ (xB_c _ (by decide)) _) y1 y2 y3 ?_
      refine W.eq (g2 := F0 m 13 ls [Value.ref q9]) rfl ?_
      refine lv_astore (lv' := (4, Value.ref q9) :: [(0, Value.ref x), (1, Value.int (iI a1)), (2, Value.int (iI a2)), (3, Value.ref oa)]) hx hb dL_dated_13 hl (by decide) rfl (fun ls hl => ?_)
      refine lv_iconst (v := iI 1) hx hb dL_dated_15 (by decide) ?_
      exact q_iret hx hb hr hlocks hP hS ⟨Nat.le_of_ble_eq_true rfl, Nat.le_of_ble_eq_true rfl⟩ (Or.inr (Or.inl ⟨w1, hZ, rfl, rfl⟩)) dL_dated_16
    · refine vx_catch (E := nIA) (name := nIA) hown (tableOf [(0, 10, 13, 28)]) ⟨0, 10, 17, 13⟩ (tableOf []) htab (fun z hz => by
        rcases List.mem_cons.mp hz with rfl | hz
        · exact Or.inr ⟨by decide, nIO, (hts _ (List.mem_of_getElem? (i := 1) rfl) : (Cond.classLink RL 28 "java/lang/IndexOutOfBoundsException").before _ s = true), hZC _ (by decide : (nIA, nIO) ∈ ncL)⟩
        cases hz) rfl (by decide) (hts _ (List.mem_of_getElem? (i := 2) rfl) : (Cond.classLink RL 13 "java/lang/IllegalArgumentException").before _ s = true) (hZT.2 _ (xB_c _ (by decide)) _) y1 y2 y3 ?_
      refine W.eq (g2 := F0 m 17 ls [Value.ref q9]) rfl ?_
      refine lv_astore (lv' := (4, Value.ref q9) :: [(0, Value.ref x), (1, Value.int (iI a1)), (2, Value.int (iI a2)), (3, Value.ref oa)]) hx hb dL_dated_17 hl (by decide) rfl (fun ls hl => ?_)
      refine lv_iconst (v := iI 2) hx hb dL_dated_19 (by decide) ?_
      exact q_iret hx hb hr hlocks hP hS ⟨Nat.le_of_ble_eq_true rfl, Nat.le_of_ble_eq_true rfl⟩ (Or.inr (Or.inr (⟨w1, hZ, rfl, rfl⟩))) dL_dated_20
  · have hP := hP.pm (List.perm_append_comm (l₂ := [outC oa z0 τ]))
    have hD := hD.pm (List.perm_append_comm (l₂ := [outC oa z0 τ]))
    obtain ⟨z, rfl⟩ := hint _ _ hZ
    refine tl_some ?_
    refine lv_i2l (v := z.toInt64) hx hb dL_dated_8 rfl ?_
    refine q_last hx hb hK hP hD hS dL_dated_9 (fun H locs hP hD hS => ?_)
    refine lv_goto (tgt := 21) hx hb dL_dated_10 (by decide) ?_
    refine lv_iconst (v := iI 0) hx hb dL_dated_21 (by decide) ?_
    exact q_iret hx hb hr hlocks hP hS ⟨Nat.le_of_ble_eq_true rfl, Nat.le_of_ble_eq_true rfl⟩ (Or.inl ⟨z, w1, hZ, rfl, rfl⟩) dL_dated_22

theorem cd_L_isPossible : cd yL_isPossible 4 := by decide +kernel
set_option maxRecDepth 100000 in
theorem c_L_isPossible (l : Launch) (g : va_G) (τ : Nat → ClassId) (x oa : Nat) (z0 : Int64) (wc : va_W) (Z : Option Value → va_W → Prop) (Zx : String → va_W → Prop) (a1 : Int) (a2 : Int) (fs : List Value) (hfs : wc[0]? = some (x, .inr (9, fs))) (hM : uMet l yX9_isPossible wsX9_isPossible { frames := 7, cells := 1, slots := 6, locals := 110 } g τ [Value.ref x, Value.int (iI a1), Value.int (iI a2)] wc Z Zx) (hf : ∀ v w1, Z v w1 → w1.map Prod.fst = wc.map Prod.fst) (hfx : ∀ E w1, Zx E w1 → w1.map Prod.fst = wc.map Prod.fst) (hE : ∀ E w1, Zx E w1 → E = nIO ∨ E = nIA) (hint : ∀ v w1, Z v w1 → ∃ b : Bool, v = some (.int (iI (zB b)))) : qMet l yL_isPossible wsL_isPossible { frames := 8, cells := 1, slots := 6, locals := 132 } g τ [Value.ref x, Value.int (iI a1), Value.int (iI a2), Value.ref oa] ([outC oa z0 τ] ++ wc) (fun v w => LR Z oa τ v w ∨ LX Zx nIO 1 oa z0 τ v w ∨ LX Zx nIA 2 oa z0 τ v w) := by
  refine qMet_of (cc := cL_isPossible) (maxL := 5) (ret := some .int) (hh := [(0, 17, 20, 28), (0, 17, 24, 13)]) (lv := [(0, Value.ref x), (1, Value.int (iI a1)), (2, Value.int (iI a2)), (3, Value.ref oa)]) (by decide) rfl (Nat.le_of_ble_eq_true rfl) rfl ?_
  intro p e s m below meth c hx hb hr hml hts hown hlocks htab A H hP hD hS hK hZT hZU hZC ls hl
  refine lv_aload_n hx hb dL_isPossible_0 rfl (lv_at hl 3 rfl) ?_
  refine lv_iconst (v := iI 0) hx hb dL_isPossible_1 (by decide) ?_
  refine lv_aload_n hx hb dL_isPossible_2 rfl (lv_at hl 0 rfl) ?_
  refine lv_iload_n hx hb dL_isPossible_3 rfl (lv_at hl 1 rfl) ?_
  refine lv_iload_n hx hb dL_isPossible_4 rfl (lv_at hl 2 rfl) ?_
  refine ru_V (As := [Value.int (iI a1), Value.int (iI a2)]) (rest := [Value.int (iI 0), Value.ref oa]) (wr := [outC oa z0 τ]) ⟨hx, hb, hml, hown, hts⟩ hM gL_isPossible_X9_isPossible cd_X9_isPossible rfl rfl ⟨rfl, rfl⟩ ⟨Nat.le_of_ble_eq_true rfl, Nat.le_of_ble_eq_true rfl⟩ hK hZT hZU hP hD hS (List.perm_append_comm (l₁ := [outC oa z0 τ])) 0 hfs rfl rfl rfl hl rfl (Nat.le_of_ble_eq_true rfl) dL_isPossible_5 ⟨Nat.le_of_ble_eq_true rfl, Nat.le_of_ble_eq_true rfl⟩ hf hfx (fun E w1 H locs q9 ce9 hZ hP hD hS y1 y2 y3 => ?_) (fun v w1 H locs hZ hP hD hS => ?_)
  · have hP := hP.pm (List.perm_append_comm (l₂ := [outC oa z0 τ]))
    rcases hE _ _ hZ with rfl | rfl
    · refine vx_catch (E := nIO) (name := nIO) hown (tableOf []) ⟨0, 17, 20, 28⟩ (tableOf [(0, 17, 24, 13)]) htab (fun z hz => nomatch hz) rfl (by decide) (hts _ (List.mem_of_getElem? (i := 1) rfl) : (Cond.classLink RL 28 "java/lang/IndexOutOfBoundsException").before _ s = true) (hZT.2 _ (xB_c _ (by decide)) _) y1 y2 y3 ?_
      refine W.eq (g2 := F0 m 20 ls [Value.ref q9]) rfl ?_
      refine lv_astore (lv' := (4, Value.ref q9) :: [(0, Value.ref x), (1, Value.int (iI a1)), (2, Value.int (iI a2)), (3, Value.ref oa)]) hx hb dL_isPossible_20 hl (by decide) rfl (fun ls hl => ?_)
      refine lv_iconst (v := iI 1) hx hb dL_isPossible_22 (by decide) ?_
      exact q_iret hx hb hr hlocks hP hS ⟨Nat.le_of_ble_eq_true rfl, Nat.le_of_ble_eq_true rfl⟩ (Or.inr (Or.inl ⟨w1, hZ, rfl, rfl⟩)) dL_isPossible_23
    · refine vx_catch (E := nIA) (name := nIA) hown (tableOf [(0, 17, 20, 28)]) ⟨0, 17, 24, 13⟩ (tableOf []) htab (fun z hz => by
        rcases List.mem_cons.mp hz with rfl | hz
        · exact Or.inr ⟨by decide, nIO, (hts _ (List.mem_of_getElem? (i := 1) rfl) : (Cond.classLink RL 28 "java/lang/IndexOutOfBoundsException").before _ s = true), hZC _ (by decide : (nIA, nIO) ∈ ncL)⟩
        cases hz) rfl (by decide) (hts _ (List.mem_of_getElem? (i := 2) rfl) : (Cond.classLink RL 13 "java/lang/IllegalArgumentException").before _ s = true) (hZT.2 _ (xB_c _ (by decide)) _) y1 y2 y3 ?_
      refine W.eq (g2 := F0 m 24 ls [Value.ref q9]) rfl ?_
      refine lv_astore (lv' := (4, Value.ref q9) :: [(0, Value.ref x), (1, Value.int (iI a1)), (2, Value.int (iI a2)), (3, Value.ref oa)]) hx hb dL_isPossible_24 hl (by decide) rfl (fun ls hl => ?_)
      refine lv_iconst (v := iI 2) hx hb dL_isPossible_26 (by decide) ?_
      exact q_iret hx hb hr hlocks hP hS ⟨Nat.le_of_ble_eq_true rfl, Nat.le_of_ble_eq_true rfl⟩ (Or.inr (Or.inr (⟨w1, hZ, rfl, rfl⟩))) dL_isPossible_27
  · have hP := hP.pm (List.perm_append_comm (l₂ := [outC oa z0 τ]))
    have hD := hD.pm (List.perm_append_comm (l₂ := [outC oa z0 τ]))
    obtain ⟨b, rfl⟩ := hint _ _ hZ
    refine tl_some ?_
    cases b
    · refine zi_if_eq (tgt := 15) hx hb ⟨by decide, by decide⟩ dL_isPossible_8 (by decide) (fun _ => ?_) (fun c => absurd rfl c)
      refine lv_lconst (v := (iI (zB false)).toInt64) hx hb dL_isPossible_15 (by decide) ?_
      refine q_last hx hb hK hP hD hS dL_isPossible_16 (fun H locs hP hD hS => ?_)
      refine lv_goto (tgt := 28) hx hb dL_isPossible_17 (by decide) ?_
      refine lv_iconst (v := iI 0) hx hb dL_isPossible_28 (by decide) ?_
      exact q_iret hx hb hr hlocks hP hS ⟨Nat.le_of_ble_eq_true rfl, Nat.le_of_ble_eq_true rfl⟩ (Or.inl ⟨(iI (zB false)), w1, hZ, rfl, rfl⟩) dL_isPossible_29
    · refine zi_if_eq (tgt := 15) hx hb ⟨by decide, by decide⟩ dL_isPossible_8 (by decide) (fun c => absurd c (by decide)) (fun _ => ?_)
      refine lv_lconst (v := (iI (zB true)).toInt64) hx hb dL_isPossible_11 (by decide) ?_
      refine lv_goto (tgt := 16) hx hb dL_isPossible_12 (by decide) ?_
      refine q_last hx hb hK hP hD hS dL_isPossible_16 (fun H locs hP hD hS => ?_)
      refine lv_goto (tgt := 28) hx hb dL_isPossible_17 (by decide) ?_
      refine lv_iconst (v := iI 0) hx hb dL_isPossible_28 (by decide) ?_
      exact q_iret hx hb hr hlocks hP hS ⟨Nat.le_of_ble_eq_true rfl, Nat.le_of_ble_eq_true rfl⟩ (Or.inl ⟨(iI (zB true)), w1, hZ, rfl, rfl⟩) dL_isPossible_29

theorem cd_L_charter : cd yL_charter 4 := by decide +kernel
set_option maxRecDepth 100000 in
theorem c_L_charter (l : Launch) (g : va_G) (τ : Nat → ClassId) (x oa : Nat) (z0 : Int64) (wc : va_W) (Z : Option Value → va_W → Prop) (Zx : String → va_W → Prop) (a1 : Int) (a2 : Int) (fs : List Value) (hfs : wc[0]? = some (x, .inr (9, fs))) (hM : uMet l yX9_charter wsX9_charter { frames := 7, cells := 1, slots := 6, locals := 110 } g τ [Value.ref x, Value.int (iI a1), Value.int (iI a2)] wc Z Zx) (hf : ∀ v w1, Z v w1 → w1.map Prod.fst = wc.map Prod.fst) (hfx : ∀ E w1, Zx E w1 → w1.map Prod.fst = wc.map Prod.fst) (hE : ∀ E w1, Zx E w1 → E = nIO ∨ E = nIA) (hint : ∀ v w1, Z v w1 → ∃ z : Int32, v = some (.int z)) : qMet l yL_charter wsL_charter { frames := 8, cells := 1, slots := 6, locals := 132 } g τ [Value.ref x, Value.int (iI a1), Value.int (iI a2), Value.ref oa] ([outC oa z0 τ] ++ wc) (fun v w => LR Z oa τ v w ∨ LX Zx nIO 1 oa z0 τ v w ∨ LX Zx nIA 2 oa z0 τ v w) := by
  refine qMet_of (cc := cL_charter) (maxL := 5) (ret := some .int) (hh := [(0, 10, 13, 28), (0, 10, 17, 13)]) (lv := [(0, Value.ref x), (1, Value.int (iI a1)), (2, Value.int (iI a2)), (3, Value.ref oa)]) (by decide) rfl (Nat.le_of_ble_eq_true rfl) rfl ?_
  intro p e s m below meth c hx hb hr hml hts hown hlocks htab A H hP hD hS hK hZT hZU hZC ls hl
  refine lv_aload_n hx hb dL_charter_0 rfl (lv_at hl 3 rfl) ?_
  refine lv_iconst (v := iI 0) hx hb dL_charter_1 (by decide) ?_
  refine lv_aload_n hx hb dL_charter_2 rfl (lv_at hl 0 rfl) ?_
  refine lv_iload_n hx hb dL_charter_3 rfl (lv_at hl 1 rfl) ?_
  refine lv_iload_n hx hb dL_charter_4 rfl (lv_at hl 2 rfl) ?_
  refine ru_V (As := [Value.int (iI a1), Value.int (iI a2)]) (rest := [Value.int (iI 0), Value.ref oa]) (wr := [outC oa z0 τ]) ⟨hx, hb, hml, hown, hts⟩ hM gL_charter_X9_charter cd_X9_charter rfl rfl ⟨rfl, rfl⟩ ⟨Nat.le_of_ble_eq_true rfl, Nat.le_of_ble_eq_true rfl⟩ hK hZT hZU hP hD hS (List.perm_append_comm (l₁ := [outC oa z0 τ])) 0 hfs rfl rfl rfl hl rfl (Nat.le_of_ble_eq_true rfl) dL_charter_5 ⟨Nat.le_of_ble_eq_true rfl, Nat.le_of_ble_eq_true rfl⟩ hf hfx (fun E w1 H locs q9 ce9 hZ hP hD hS y1 y2 y3 => ?_) (fun v w1 H locs hZ hP hD hS => ?_)
  · have hP := hP.pm (List.perm_append_comm (l₂ := [outC oa z0 τ]))
    rcases hE _ _ hZ with rfl | rfl
    · refine vx_catch (E := nIO) (name := nIO) hown (tableOf []) ⟨0, 10, 13, 28⟩ (tableOf [(0, 10, 17, 13)]) htab (fun z hz => nomatch hz) rfl (by decide) (hts _ (List.mem_of_getElem? (i := 1) rfl) : (Cond.classLink RL 28 "java/lang/IndexOutOfBoundsException").before _ s = true) (hZT.2 _ (xB_c _ (by decide)) _) y1 y2 y3 ?_
      refine W.eq (g2 := F0 m 13 ls [Value.ref q9]) rfl ?_
      refine lv_astore (lv' := (4, Value.ref q9) :: [(0, Value.ref x), (1, Value.int (iI a1)), (2, Value.int (iI a2)), (3, Value.ref oa)]) hx hb dL_charter_13 hl (by decide) rfl (fun ls hl => ?_)
      refine lv_iconst (v := iI 1) hx hb dL_charter_15 (by decide) ?_
      exact q_iret hx hb hr hlocks hP hS ⟨Nat.le_of_ble_eq_true rfl, Nat.le_of_ble_eq_true rfl⟩ (Or.inr (Or.inl ⟨w1, hZ, rfl, rfl⟩)) dL_charter_16
    · refine vx_catch (E := nIA) (name := nIA) hown (tableOf [(0, 10, 13, 28)]) ⟨0, 10, 17, 13⟩ (tableOf []) htab (fun z hz => by
        rcases List.mem_cons.mp hz with rfl | hz
        · exact Or.inr ⟨by decide, nIO, (hts _ (List.mem_of_getElem? (i := 1) rfl) : (Cond.classLink RL 28 "java/lang/IndexOutOfBoundsException").before _ s = true), hZC _ (by decide : (nIA, nIO) ∈ ncL)⟩
        cases hz) rfl (by decide) (hts _ (List.mem_of_getElem? (i := 2) rfl) : (Cond.classLink RL 13 "java/lang/IllegalArgumentException").before _ s = true) (hZT.2 _ (xB_c _ (by decide)) _) y1 y2 y3 ?_
      refine W.eq (g2 := F0 m 17 ls [Value.ref q9]) rfl ?_
      refine lv_astore (lv' := (4, Value.ref q9) :: [(0, Value.ref x), (1, Value.int (iI a1)), (2, Value.int (iI a2)), (3, Value.ref oa)]) hx hb dL_charter_17 hl (by decide) rfl (fun ls hl => ?_)
      refine lv_iconst (v := iI 2) hx hb dL_charter_19 (by decide) ?_
      exact q_iret hx hb hr hlocks hP hS ⟨Nat.le_of_ble_eq_true rfl, Nat.le_of_ble_eq_true rfl⟩ (Or.inr (Or.inr (⟨w1, hZ, rfl, rfl⟩))) dL_charter_20
  · have hP := hP.pm (List.perm_append_comm (l₂ := [outC oa z0 τ]))
    have hD := hD.pm (List.perm_append_comm (l₂ := [outC oa z0 τ]))
    obtain ⟨z, rfl⟩ := hint _ _ hZ
    refine tl_some ?_
    refine lv_i2l (v := z.toInt64) hx hb dL_charter_8 rfl ?_
    refine q_last hx hb hK hP hD hS dL_charter_9 (fun H locs hP hD hS => ?_)
    refine lv_goto (tgt := 21) hx hb dL_charter_10 (by decide) ?_
    refine lv_iconst (v := iI 0) hx hb dL_charter_21 (by decide) ?_
    exact q_iret hx hb hr hlocks hP hS ⟨Nat.le_of_ble_eq_true rfl, Nat.le_of_ble_eq_true rfl⟩ (Or.inl ⟨z, w1, hZ, rfl, rfl⟩) dL_charter_22

theorem cd_L_onShelf : cd yL_onShelf 4 := by decide +kernel
set_option maxRecDepth 100000 in
theorem c_L_onShelf (l : Launch) (g : va_G) (τ : Nat → ClassId) (x oa : Nat) (z0 : Int64) (wc : va_W) (Z : Option Value → va_W → Prop) (Zx : String → va_W → Prop) (a1 : Int) (a2 : Int) (fs : List Value) (hfs : wc[0]? = some (x, .inr (9, fs))) (hM : uMet l yX9_onShelf wsX9_onShelf { frames := 7, cells := 1, slots := 6, locals := 110 } g τ [Value.ref x, Value.int (iI a1), Value.int (iI a2)] wc Z Zx) (hf : ∀ v w1, Z v w1 → w1.map Prod.fst = wc.map Prod.fst) (hfx : ∀ E w1, Zx E w1 → w1.map Prod.fst = wc.map Prod.fst) (hE : ∀ E w1, Zx E w1 → E = nIO ∨ E = nIA) (hint : ∀ v w1, Z v w1 → ∃ z : Int32, v = some (.int z)) : qMet l yL_onShelf wsL_onShelf { frames := 8, cells := 1, slots := 6, locals := 132 } g τ [Value.ref x, Value.int (iI a1), Value.int (iI a2), Value.ref oa] ([outC oa z0 τ] ++ wc) (fun v w => LR Z oa τ v w ∨ LX Zx nIO 1 oa z0 τ v w ∨ LX Zx nIA 2 oa z0 τ v w) := by
  refine qMet_of (cc := cL_onShelf) (maxL := 5) (ret := some .int) (hh := [(0, 10, 13, 28), (0, 10, 17, 13)]) (lv := [(0, Value.ref x), (1, Value.int (iI a1)), (2, Value.int (iI a2)), (3, Value.ref oa)]) (by decide) rfl (Nat.le_of_ble_eq_true rfl) rfl ?_
  intro p e s m below meth c hx hb hr hml hts hown hlocks htab A H hP hD hS hK hZT hZU hZC ls hl
  refine lv_aload_n hx hb dL_onShelf_0 rfl (lv_at hl 3 rfl) ?_
  refine lv_iconst (v := iI 0) hx hb dL_onShelf_1 (by decide) ?_
  refine lv_aload_n hx hb dL_onShelf_2 rfl (lv_at hl 0 rfl) ?_
  refine lv_iload_n hx hb dL_onShelf_3 rfl (lv_at hl 1 rfl) ?_
  refine lv_iload_n hx hb dL_onShelf_4 rfl (lv_at hl 2 rfl) ?_
  refine ru_V (As := [Value.int (iI a1), Value.int (iI a2)]) (rest := [Value.int (iI 0), Value.ref oa]) (wr := [outC oa z0 τ]) ⟨hx, hb, hml, hown, hts⟩ hM gL_onShelf_X9_onShelf cd_X9_onShelf rfl rfl ⟨rfl, rfl⟩ ⟨Nat.le_of_ble_eq_true rfl, Nat.le_of_ble_eq_true rfl⟩ hK hZT hZU hP hD hS (List.perm_append_comm (l₁ := [outC oa z0 τ])) 0 hfs rfl rfl rfl hl rfl (Nat.le_of_ble_eq_true rfl) dL_onShelf_5 ⟨Nat.le_of_ble_eq_true rfl, Nat.le_of_ble_eq_true rfl⟩ hf hfx (fun E w1 H locs q9 ce9 hZ hP hD hS y1 y2 y3 => ?_) (fun v w1 H locs hZ hP hD hS => ?_)
  · have hP := hP.pm (List.perm_append_comm (l₂ := [outC oa z0 τ]))
    rcases hE _ _ hZ with rfl | rfl
    · refine vx_catch (E := nIO) (name := nIO) hown (tableOf []) ⟨0, 10, 13, 28⟩ (tableOf [(0, 10, 17, 13)]) htab (fun z hz => nomatch hz) rfl (by decide) (hts _ (List.mem_of_getElem? (i := 1) rfl) : (Cond.classLink RL 28 "java/lang/IndexOutOfBoundsException").before _ s = true) (hZT.2 _ (xB_c _ (by decide)) _) y1 y2 y3 ?_
      refine W.eq (g2 := F0 m 13 ls [Value.ref q9]) rfl ?_
      refine lv_astore (lv' := (4, Value.ref q9) :: [(0, Value.ref x), (1, Value.int (iI a1)), (2, Value.int (iI a2)), (3, Value.ref oa)]) hx hb dL_onShelf_13 hl (by decide) rfl (fun ls hl => ?_)
      refine lv_iconst (v := iI 1) hx hb dL_onShelf_15 (by decide) ?_
      exact q_iret hx hb hr hlocks hP hS ⟨Nat.le_of_ble_eq_true rfl, Nat.le_of_ble_eq_true rfl⟩ (Or.inr (Or.inl ⟨w1, hZ, rfl, rfl⟩)) dL_onShelf_16
    · refine vx_catch (E := nIA) (name := nIA) hown (tableOf [(0, 10, 13, 28)]) ⟨0, 10, 17, 13⟩ (tableOf []) htab (fun z hz => by
        rcases List.mem_cons.mp hz with rfl | hz
        · exact Or.inr ⟨by decide, nIO, (hts _ (List.mem_of_getElem? (i := 1) rfl) : (Cond.classLink RL 28 "java/lang/IndexOutOfBoundsException").before _ s = true), hZC _ (by decide : (nIA, nIO) ∈ ncL)⟩
        cases hz) rfl (by decide) (hts _ (List.mem_of_getElem? (i := 2) rfl) : (Cond.classLink RL 13 "java/lang/IllegalArgumentException").before _ s = true) (hZT.2 _ (xB_c _ (by decide)) _) y1 y2 y3 ?_
      refine W.eq (g2 := F0 m 17 ls [Value.ref q9]) rfl ?_
      refine lv_astore (lv' := (4, Value.ref q9) :: [(0, Value.ref x), (1, Value.int (iI a1)), (2, Value.int (iI a2)), (3, Value.ref oa)]) hx hb dL_onShelf_17 hl (by decide) rfl (fun ls hl => ?_)
      refine lv_iconst (v := iI 2) hx hb dL_onShelf_19 (by decide) ?_
      exact q_iret hx hb hr hlocks hP hS ⟨Nat.le_of_ble_eq_true rfl, Nat.le_of_ble_eq_true rfl⟩ (Or.inr (Or.inr (⟨w1, hZ, rfl, rfl⟩))) dL_onShelf_20
  · have hP := hP.pm (List.perm_append_comm (l₂ := [outC oa z0 τ]))
    have hD := hD.pm (List.perm_append_comm (l₂ := [outC oa z0 τ]))
    obtain ⟨z, rfl⟩ := hint _ _ hZ
    refine tl_some ?_
    refine lv_i2l (v := z.toInt64) hx hb dL_onShelf_8 rfl ?_
    refine q_last hx hb hK hP hD hS dL_onShelf_9 (fun H locs hP hD hS => ?_)
    refine lv_goto (tgt := 21) hx hb dL_onShelf_10 (by decide) ?_
    refine lv_iconst (v := iI 0) hx hb dL_onShelf_21 (by decide) ?_
    exact q_iret hx hb hr hlocks hP hS ⟨Nat.le_of_ble_eq_true rfl, Nat.le_of_ble_eq_true rfl⟩ (Or.inl ⟨z, w1, hZ, rfl, rfl⟩) dL_onShelf_22

theorem cd_L_reign : cd yL_reign 4 := by decide +kernel
set_option maxRecDepth 100000 in
theorem c_L_reign (l : Launch) (g : va_G) (τ : Nat → ClassId) (x oa : Nat) (z0 : Int64) (wc : va_W) (Z : Option Value → va_W → Prop) (Zx : String → va_W → Prop) (a1 : Int) (a2 : Int) (fs : List Value) (hfs : wc[0]? = some (x, .inr (9, fs))) (hM : uMet l yX9_reign wsX9_reign { frames := 9, cells := 1, slots := 6, locals := 152 } g τ [Value.ref x, Value.int (iI a1), Value.int (iI a2)] wc Z Zx) (hf : ∀ v w1, Z v w1 → w1.map Prod.fst = wc.map Prod.fst) (hfx : ∀ E w1, Zx E w1 → w1.map Prod.fst = wc.map Prod.fst) (hE : ∀ E w1, Zx E w1 → E = nIA ∨ E = nIS) (hint : ∀ v w1, Z v w1 → ∃ z : Int32, v = some (.int z)) : qMet l yL_reign wsL_reign { frames := 10, cells := 1, slots := 6, locals := 174 } g τ [Value.ref x, Value.int (iI a1), Value.int (iI a2), Value.ref oa] ([outC oa z0 τ] ++ wc) (fun v w => LR Z oa τ v w ∨ LX Zx nIA 1 oa z0 τ v w ∨ LX Zx nIS 2 oa z0 τ v w) := by
  refine qMet_of (cc := cL_reign) (maxL := 5) (ret := some .int) (hh := [(0, 10, 13, 13), (0, 10, 17, 15)]) (lv := [(0, Value.ref x), (1, Value.int (iI a1)), (2, Value.int (iI a2)), (3, Value.ref oa)]) (by decide) rfl (Nat.le_of_ble_eq_true rfl) rfl ?_
  intro p e s m below meth c hx hb hr hml hts hown hlocks htab A H hP hD hS hK hZT hZU hZC ls hl
  refine lv_aload_n hx hb dL_reign_0 rfl (lv_at hl 3 rfl) ?_
  refine lv_iconst (v := iI 0) hx hb dL_reign_1 (by decide) ?_
  refine lv_aload_n hx hb dL_reign_2 rfl (lv_at hl 0 rfl) ?_
  refine lv_iload_n hx hb dL_reign_3 rfl (lv_at hl 1 rfl) ?_
  refine lv_iload_n hx hb dL_reign_4 rfl (lv_at hl 2 rfl) ?_
  refine ru_V (As := [Value.int (iI a1), Value.int (iI a2)]) (rest := [Value.int (iI 0), Value.ref oa]) (wr := [outC oa z0 τ]) ⟨hx, hb, hml, hown, hts⟩ hM gL_reign_X9_reign cd_X9_reign rfl rfl ⟨rfl, rfl⟩ ⟨Nat.le_of_ble_eq_true rfl, Nat.le_of_ble_eq_true rfl⟩ hK hZT hZU hP hD hS (List.perm_append_comm (l₁ := [outC oa z0 τ])) 0 hfs rfl rfl rfl hl rfl (Nat.le_of_ble_eq_true rfl) dL_reign_5 ⟨Nat.le_of_ble_eq_true rfl, Nat.le_of_ble_eq_true rfl⟩ hf hfx (fun E w1 H locs q9 ce9 hZ hP hD hS y1 y2 y3 => ?_) (fun v w1 H locs hZ hP hD hS => ?_)
  · have hP := hP.pm (List.perm_append_comm (l₂ := [outC oa z0 τ]))
    rcases hE _ _ hZ with rfl | rfl
    · refine vx_catch (E := nIA) (name := nIA) hown (tableOf []) ⟨0, 10, 13, 13⟩ (tableOf [(0, 10, 17, 15)]) htab (fun z hz => nomatch hz) rfl (by decide) (hts _ (List.mem_of_getElem? (i := 1) rfl) : (Cond.classLink RL 13 "java/lang/IllegalArgumentException").before _ s = true) (hZT.2 _ (xB_c _ (by decide)) _) y1 y2 y3 ?_
      refine W.eq (g2 := F0 m 13 ls [Value.ref q9]) rfl ?_
      refine lv_astore (lv' := (4, Value.ref q9) :: [(0, Value.ref x), (1, Value.int (iI a1)), (2, Value.int (iI a2)), (3, Value.ref oa)]) hx hb dL_reign_13 hl (by decide) rfl (fun ls hl => ?_)
      refine lv_iconst (v := iI 1) hx hb dL_reign_15 (by decide) ?_
      exact q_iret hx hb hr hlocks hP hS ⟨Nat.le_of_ble_eq_true rfl, Nat.le_of_ble_eq_true rfl⟩ (Or.inr (Or.inl ⟨w1, hZ, rfl, rfl⟩)) dL_reign_16
    · refine vx_catch (E := nIS) (name := nIS) hown (tableOf [(0, 10, 13, 13)]) ⟨0, 10, 17, 15⟩ (tableOf []) htab (fun z hz => by
        rcases List.mem_cons.mp hz with rfl | hz
        · exact Or.inr ⟨by decide, nIA, (hts _ (List.mem_of_getElem? (i := 1) rfl) : (Cond.classLink RL 13 "java/lang/IllegalArgumentException").before _ s = true), hZC _ (by decide : (nIS, nIA) ∈ ncL)⟩
        cases hz) rfl (by decide) (hts _ (List.mem_of_getElem? (i := 2) rfl) : (Cond.classLink RL 15 "java/lang/IllegalStateException").before _ s = true) (hZT.2 _ (xB_c _ (by decide)) _) y1 y2 y3 ?_
      refine W.eq (g2 := F0 m 17 ls [Value.ref q9]) rfl ?_
      refine lv_astore (lv' := (4, Value.ref q9) :: [(0, Value.ref x), (1, Value.int (iI a1)), (2, Value.int (iI a2)), (3, Value.ref oa)]) hx hb dL_reign_17 hl (by decide) rfl (fun ls hl => ?_)
      refine lv_iconst (v := iI 2) hx hb dL_reign_19 (by decide) ?_
      exact q_iret hx hb hr hlocks hP hS ⟨Nat.le_of_ble_eq_true rfl, Nat.le_of_ble_eq_true rfl⟩ (Or.inr (Or.inr (⟨w1, hZ, rfl, rfl⟩))) dL_reign_20
  · have hP := hP.pm (List.perm_append_comm (l₂ := [outC oa z0 τ]))
    have hD := hD.pm (List.perm_append_comm (l₂ := [outC oa z0 τ]))
    obtain ⟨z, rfl⟩ := hint _ _ hZ
    refine tl_some ?_
    refine lv_i2l (v := z.toInt64) hx hb dL_reign_8 rfl ?_
    refine q_last hx hb hK hP hD hS dL_reign_9 (fun H locs hP hD hS => ?_)
    refine lv_goto (tgt := 21) hx hb dL_reign_10 (by decide) ?_
    refine lv_iconst (v := iI 0) hx hb dL_reign_21 (by decide) ?_
    exact q_iret hx hb hr hlocks hP hS ⟨Nat.le_of_ble_eq_true rfl, Nat.le_of_ble_eq_true rfl⟩ (Or.inl ⟨z, w1, hZ, rfl, rfl⟩) dL_reign_22

theorem cd_L_die : cd yL_die 5 := by decide +kernel
set_option maxRecDepth 100000 in
theorem c_L_die (l : Launch) (g : va_G) (τ : Nat → ClassId) (x oa : Nat) (z0 : Int64) (wc : va_W) (Z : Option Value → va_W → Prop) (Zx : String → va_W → Prop) (a1 : Int) (a2 : Int) (a3 : Int) (fs : List Value) (hfs : wc[0]? = some (x, .inr (9, fs))) (hM : uMet l yX9_die wsX9_die { frames := 9, cells := 1, slots := 6, locals := 152 } g τ [Value.ref x, Value.int (iI a1), Value.int (iI a2), Value.int (iI a3)] wc Z Zx) (hf : ∀ v w1, Z v w1 → w1.map Prod.fst = wc.map Prod.fst) (hfx : ∀ E w1, Zx E w1 → w1.map Prod.fst = wc.map Prod.fst) (hE : ∀ E w1, Zx E w1 → E = nIA ∨ E = nIS) (hint : ∀ v w1, Z v w1 → ∃ z : Int32, v = some (.int z)) : qMet l yL_die wsL_die { frames := 10, cells := 1, slots := 6, locals := 175 } g τ [Value.ref x, Value.int (iI a1), Value.int (iI a2), Value.int (iI a3), Value.ref oa] ([outC oa z0 τ] ++ wc) (fun v w => LR Z oa τ v w ∨ LX Zx nIA 1 oa z0 τ v w ∨ LX Zx nIS 2 oa z0 τ v w) := by
  refine qMet_of (cc := cL_die) (maxL := 6) (ret := some .int) (hh := [(0, 12, 15, 13), (0, 12, 19, 15)]) (lv := [(0, Value.ref x), (1, Value.int (iI a1)), (2, Value.int (iI a2)), (3, Value.int (iI a3)), (4, Value.ref oa)]) (by decide) rfl (Nat.le_of_ble_eq_true rfl) rfl ?_
  intro p e s m below meth c hx hb hr hml hts hown hlocks htab A H hP hD hS hK hZT hZU hZC ls hl
  refine lv_aload hx hb dL_die_0 (lv_at hl 4 rfl) ?_
  refine lv_iconst (v := iI 0) hx hb dL_die_2 (by decide) ?_
  refine lv_aload_n hx hb dL_die_3 rfl (lv_at hl 0 rfl) ?_
  refine lv_iload_n hx hb dL_die_4 rfl (lv_at hl 1 rfl) ?_
  refine lv_iload_n hx hb dL_die_5 rfl (lv_at hl 2 rfl) ?_
  refine lv_iload_n hx hb dL_die_6 rfl (lv_at hl 3 rfl) ?_
  refine ru_V (As := [Value.int (iI a1), Value.int (iI a2), Value.int (iI a3)]) (rest := [Value.int (iI 0), Value.ref oa]) (wr := [outC oa z0 τ]) ⟨hx, hb, hml, hown, hts⟩ hM gL_die_X9_die cd_X9_die rfl rfl ⟨rfl, rfl⟩ ⟨Nat.le_of_ble_eq_true rfl, Nat.le_of_ble_eq_true rfl⟩ hK hZT hZU hP hD hS (List.perm_append_comm (l₁ := [outC oa z0 τ])) 0 hfs rfl rfl rfl hl rfl (Nat.le_of_ble_eq_true rfl) dL_die_7 ⟨Nat.le_of_ble_eq_true rfl, Nat.le_of_ble_eq_true rfl⟩ hf hfx (fun E w1 H locs q9 ce9 hZ hP hD hS y1 y2 y3 => ?_) (fun v w1 H locs hZ hP hD hS => ?_)
  · have hP := hP.pm (List.perm_append_comm (l₂ := [outC oa z0 τ]))
    rcases hE _ _ hZ with rfl | rfl
    · refine vx_catch (E := nIA) (name := nIA) hown (tableOf []) ⟨0, 12, 15, 13⟩ (tableOf [(0, 12, 19, 15)]) htab (fun z hz => nomatch hz) rfl (by decide) (hts _ (List.mem_of_getElem? (i := 1) rfl) : (Cond.classLink RL 13 "java/lang/IllegalArgumentException").before _ s = true) (hZT.2 _ (xB_c _ (by decide)) _) y1 y2 y3 ?_
      refine W.eq (g2 := F0 m 15 ls [Value.ref q9]) rfl ?_
      refine lv_astore (lv' := (5, Value.ref q9) :: [(0, Value.ref x), (1, Value.int (iI a1)), (2, Value.int (iI a2)), (3, Value.int (iI a3)), (4, Value.ref oa)]) hx hb dL_die_15 hl (by decide) rfl (fun ls hl => ?_)
      refine lv_iconst (v := iI 1) hx hb dL_die_17 (by decide) ?_
      exact q_iret hx hb hr hlocks hP hS ⟨Nat.le_of_ble_eq_true rfl, Nat.le_of_ble_eq_true rfl⟩ (Or.inr (Or.inl ⟨w1, hZ, rfl, rfl⟩)) dL_die_18
    · refine vx_catch (E := nIS) (name := nIS) hown (tableOf [(0, 12, 15, 13)]) ⟨0, 12, 19, 15⟩ (tableOf []) htab (fun z hz => by
        rcases List.mem_cons.mp hz with rfl | hz
        · exact Or.inr ⟨by decide, nIA, (hts _ (List.mem_of_getElem? (i := 1) rfl) : (Cond.classLink RL 13 "java/lang/IllegalArgumentException").before _ s = true), hZC _ (by decide : (nIS, nIA) ∈ ncL)⟩
        cases hz) rfl (by decide) (hts _ (List.mem_of_getElem? (i := 2) rfl) : (Cond.classLink RL 15 "java/lang/IllegalStateException").before _ s = true) (hZT.2 _ (xB_c _ (by decide)) _) y1 y2 y3 ?_
      refine W.eq (g2 := F0 m 19 ls [Value.ref q9]) rfl ?_
      refine lv_astore (lv' := (5, Value.ref q9) :: [(0, Value.ref x), (1, Value.int (iI a1)), (2, Value.int (iI a2)), (3, Value.int (iI a3)), (4, Value.ref oa)]) hx hb dL_die_19 hl (by decide) rfl (fun ls hl => ?_)
      refine lv_iconst (v := iI 2) hx hb dL_die_21 (by decide) ?_
      exact q_iret hx hb hr hlocks hP hS ⟨Nat.le_of_ble_eq_true rfl, Nat.le_of_ble_eq_true rfl⟩ (Or.inr (Or.inr (⟨w1, hZ, rfl, rfl⟩))) dL_die_22
  · have hP := hP.pm (List.perm_append_comm (l₂ := [outC oa z0 τ]))
    have hD := hD.pm (List.perm_append_comm (l₂ := [outC oa z0 τ]))
    obtain ⟨z, rfl⟩ := hint _ _ hZ
    refine tl_some ?_
    refine lv_i2l (v := z.toInt64) hx hb dL_die_10 rfl ?_
    refine q_last hx hb hK hP hD hS dL_die_11 (fun H locs hP hD hS => ?_)
    refine lv_goto (tgt := 23) hx hb dL_die_12 (by decide) ?_
    refine lv_iconst (v := iI 0) hx hb dL_die_23 (by decide) ?_
    exact q_iret hx hb hr hlocks hP hS ⟨Nat.le_of_ble_eq_true rfl, Nat.le_of_ble_eq_true rfl⟩ (Or.inl ⟨z, w1, hZ, rfl, rfl⟩) dL_die_24

theorem cd_L_crack : cd yL_crack 4 := by decide +kernel
set_option maxRecDepth 100000 in
theorem c_L_crack (l : Launch) (g : va_G) (τ : Nat → ClassId) (x oa : Nat) (z0 : Int64) (wc : va_W) (Z : Option Value → va_W → Prop) (Zx : String → va_W → Prop) (a1 : Int) (a2 : Int) (fs : List Value) (hfs : wc[0]? = some (x, .inr (9, fs))) (hM : uMet l yX9_crack wsX9_crack { frames := 9, cells := 1, slots := 6, locals := 152 } g τ [Value.ref x, Value.int (iI a1), Value.int (iI a2)] wc Z Zx) (hf : ∀ v w1, Z v w1 → w1.map Prod.fst = wc.map Prod.fst) (hfx : ∀ E w1, Zx E w1 → w1.map Prod.fst = wc.map Prod.fst) (hE : ∀ E w1, Zx E w1 → E = nIO ∨ E = nIA ∨ E = nIS) (hint : ∀ v w1, Z v w1 → ∃ z : Int32, v = some (.int z)) : qMet l yL_crack wsL_crack { frames := 10, cells := 1, slots := 6, locals := 174 } g τ [Value.ref x, Value.int (iI a1), Value.int (iI a2), Value.ref oa] ([outC oa z0 τ] ++ wc) (fun v w => LR Z oa τ v w ∨ LX Zx nIO 1 oa z0 τ v w ∨ LX Zx nIA 2 oa z0 τ v w ∨ LX Zx nIS 3 oa z0 τ v w) := by
  refine qMet_of (cc := cL_crack) (maxL := 5) (ret := some .int) (hh := [(0, 10, 13, 28), (0, 10, 17, 13), (0, 10, 21, 15)]) (lv := [(0, Value.ref x), (1, Value.int (iI a1)), (2, Value.int (iI a2)), (3, Value.ref oa)]) (by decide) rfl (Nat.le_of_ble_eq_true rfl) rfl ?_
  intro p e s m below meth c hx hb hr hml hts hown hlocks htab A H hP hD hS hK hZT hZU hZC ls hl
  refine lv_aload_n hx hb dL_crack_0 rfl (lv_at hl 3 rfl) ?_
  refine lv_iconst (v := iI 0) hx hb dL_crack_1 (by decide) ?_
  refine lv_aload_n hx hb dL_crack_2 rfl (lv_at hl 0 rfl) ?_
  refine lv_iload_n hx hb dL_crack_3 rfl (lv_at hl 1 rfl) ?_
  refine lv_iload_n hx hb dL_crack_4 rfl (lv_at hl 2 rfl) ?_
  refine ru_V (As := [Value.int (iI a1), Value.int (iI a2)]) (rest := [Value.int (iI 0), Value.ref oa]) (wr := [outC oa z0 τ]) ⟨hx, hb, hml, hown, hts⟩ hM gL_crack_X9_crack cd_X9_crack rfl rfl ⟨rfl, rfl⟩ ⟨Nat.le_of_ble_eq_true rfl, Nat.le_of_ble_eq_true rfl⟩ hK hZT hZU hP hD hS (List.perm_append_comm (l₁ := [outC oa z0 τ])) 0 hfs rfl rfl rfl hl rfl (Nat.le_of_ble_eq_true rfl) dL_crack_5 ⟨Nat.le_of_ble_eq_true rfl, Nat.le_of_ble_eq_true rfl⟩ hf hfx (fun E w1 H locs q9 ce9 hZ hP hD hS y1 y2 y3 => ?_) (fun v w1 H locs hZ hP hD hS => ?_)
  · have hP := hP.pm (List.perm_append_comm (l₂ := [outC oa z0 τ]))
    rcases hE _ _ hZ with rfl | rfl | rfl
    · refine vx_catch (E := nIO) (name := nIO) hown (tableOf []) ⟨0, 10, 13, 28⟩ (tableOf [(0, 10, 17, 13), (0, 10, 21, 15)]) htab (fun z hz => nomatch hz) rfl (by decide) (hts _ (List.mem_of_getElem? (i := 1) rfl) : (Cond.classLink RL 28 "java/lang/IndexOutOfBoundsException").before _ s = true) (hZT.2 _ (xB_c _ (by decide)) _) y1 y2 y3 ?_
      refine W.eq (g2 := F0 m 13 ls [Value.ref q9]) rfl ?_
      refine lv_astore (lv' := (4, Value.ref q9) :: [(0, Value.ref x), (1, Value.int (iI a1)), (2, Value.int (iI a2)), (3, Value.ref oa)]) hx hb dL_crack_13 hl (by decide) rfl (fun ls hl => ?_)
      refine lv_iconst (v := iI 1) hx hb dL_crack_15 (by decide) ?_
      exact q_iret hx hb hr hlocks hP hS ⟨Nat.le_of_ble_eq_true rfl, Nat.le_of_ble_eq_true rfl⟩ (Or.inr (Or.inl ⟨w1, hZ, rfl, rfl⟩)) dL_crack_16
    · refine vx_catch (E := nIA) (name := nIA) hown (tableOf [(0, 10, 13, 28)]) ⟨0, 10, 17, 13⟩ (tableOf [(0, 10, 21, 15)]) htab (fun z hz => by
        rcases List.mem_cons.mp hz with rfl | hz
        · exact Or.inr ⟨by decide, nIO, (hts _ (List.mem_of_getElem? (i := 1) rfl) : (Cond.classLink RL 28 "java/lang/IndexOutOfBoundsException").before _ s = true), hZC _ (by decide : (nIA, nIO) ∈ ncL)⟩
        cases hz) rfl (by decide) (hts _ (List.mem_of_getElem? (i := 2) rfl) : (Cond.classLink RL 13 "java/lang/IllegalArgumentException").before _ s = true) (hZT.2 _ (xB_c _ (by decide)) _) y1 y2 y3 ?_
      refine W.eq (g2 := F0 m 17 ls [Value.ref q9]) rfl ?_
      refine lv_astore (lv' := (4, Value.ref q9) :: [(0, Value.ref x), (1, Value.int (iI a1)), (2, Value.int (iI a2)), (3, Value.ref oa)]) hx hb dL_crack_17 hl (by decide) rfl (fun ls hl => ?_)
      refine lv_iconst (v := iI 2) hx hb dL_crack_19 (by decide) ?_
      exact q_iret hx hb hr hlocks hP hS ⟨Nat.le_of_ble_eq_true rfl, Nat.le_of_ble_eq_true rfl⟩ (Or.inr (Or.inr (Or.inl ⟨w1, hZ, rfl, rfl⟩))) dL_crack_20
    · refine vx_catch (E := nIS) (name := nIS) hown (tableOf [(0, 10, 13, 28), (0, 10, 17, 13)]) ⟨0, 10, 21, 15⟩ (tableOf []) htab (fun z hz => by
        rcases List.mem_cons.mp hz with rfl | hz
        · exact Or.inr ⟨by decide, nIO, (hts _ (List.mem_of_getElem? (i := 1) rfl) : (Cond.classLink RL 28 "java/lang/IndexOutOfBoundsException").before _ s = true), hZC _ (by decide : (nIS, nIO) ∈ ncL)⟩
        rcases List.mem_cons.mp hz with rfl | hz
        · exact Or.inr ⟨by decide, nIA, (hts _ (List.mem_of_getElem? (i := 2) rfl) : (Cond.classLink RL 13 "java/lang/IllegalArgumentException").before _ s = true), hZC _ (by decide : (nIS, nIA) ∈ ncL)⟩
        cases hz) rfl (by decide) (hts _ (List.mem_of_getElem? (i := 3) rfl) : (Cond.classLink RL 15 "java/lang/IllegalStateException").before _ s = true) (hZT.2 _ (xB_c _ (by decide)) _) y1 y2 y3 ?_
      refine W.eq (g2 := F0 m 21 ls [Value.ref q9]) rfl ?_
      refine lv_astore (lv' := (4, Value.ref q9) :: [(0, Value.ref x), (1, Value.int (iI a1)), (2, Value.int (iI a2)), (3, Value.ref oa)]) hx hb dL_crack_21 hl (by decide) rfl (fun ls hl => ?_)
      refine lv_iconst (v := iI 3) hx hb dL_crack_23 (by decide) ?_
      exact q_iret hx hb hr hlocks hP hS ⟨Nat.le_of_ble_eq_true rfl, Nat.le_of_ble_eq_true rfl⟩ (Or.inr (Or.inr (Or.inr (⟨w1, hZ, rfl, rfl⟩)))) dL_crack_24
  · have hP := hP.pm (List.perm_append_comm (l₂ := [outC oa z0 τ]))
    have hD := hD.pm (List.perm_append_comm (l₂ := [outC oa z0 τ]))
    obtain ⟨z, rfl⟩ := hint _ _ hZ
    refine tl_some ?_
    refine lv_i2l (v := z.toInt64) hx hb dL_crack_8 rfl ?_
    refine q_last hx hb hK hP hD hS dL_crack_9 (fun H locs hP hD hS => ?_)
    refine lv_goto (tgt := 25) hx hb dL_crack_10 (by decide) ?_
    refine lv_iconst (v := iI 0) hx hb dL_crack_25 (by decide) ?_
    exact q_iret hx hb hr hlocks hP hS ⟨Nat.le_of_ble_eq_true rfl, Nat.le_of_ble_eq_true rfl⟩ (Or.inl ⟨z, w1, hZ, rfl, rfl⟩) dL_crack_26

theorem cd_L_seal : cd yL_seal 7 := by decide +kernel
set_option maxRecDepth 100000 in
theorem c_L_seal (l : Launch) (g : va_G) (τ : Nat → ClassId) (x oa : Nat) (z0 : Int64) (wc : va_W) (Z : Option Value → va_W → Prop) (Zx : String → va_W → Prop) (a1 : Int) (a2 : Int) (a3 : Int) (a4 : Int) (a5 : Int) (fs : List Value) (hfs : wc[0]? = some (x, .inr (9, fs))) (hM : uMet l yX9_seal wsX9_seal { frames := 9, cells := 1, slots := 6, locals := 152 } g τ [Value.ref x, Value.int (iI a1), Value.int (iI a2), Value.int (iI a3), Value.int (iI a4), Value.int (iI a5)] wc Z Zx) (hf : ∀ v w1, Z v w1 → w1.map Prod.fst = wc.map Prod.fst) (hfx : ∀ E w1, Zx E w1 → w1.map Prod.fst = wc.map Prod.fst) (hE : ∀ E w1, Zx E w1 → E = nIO ∨ E = nIA ∨ E = nIS) (hint : ∀ v w1, Z v w1 → ∃ z : Int32, v = some (.int z)) : qMet l yL_seal wsL_seal { frames := 10, cells := 1, slots := 6, locals := 177 } g τ [Value.ref x, Value.int (iI a1), Value.int (iI a2), Value.int (iI a3), Value.int (iI a4), Value.int (iI a5), Value.ref oa] ([outC oa z0 τ] ++ wc) (fun v w => LR Z oa τ v w ∨ LX Zx nIO 1 oa z0 τ v w ∨ LX Zx nIA 2 oa z0 τ v w ∨ LX Zx nIS 3 oa z0 τ v w) := by
  refine qMet_of (cc := cL_seal) (maxL := 8) (ret := some .int) (hh := [(0, 16, 19, 28), (0, 16, 23, 13), (0, 16, 27, 15)]) (lv := [(0, Value.ref x), (1, Value.int (iI a1)), (2, Value.int (iI a2)), (3, Value.int (iI a3)), (4, Value.int (iI a4)), (5, Value.int (iI a5)), (6, Value.ref oa)]) (by decide) rfl (Nat.le_of_ble_eq_true rfl) rfl ?_
  intro p e s m below meth c hx hb hr hml hts hown hlocks htab A H hP hD hS hK hZT hZU hZC ls hl
  refine lv_aload hx hb dL_seal_0 (lv_at hl 6 rfl) ?_
  refine lv_iconst (v := iI 0) hx hb dL_seal_2 (by decide) ?_
  refine lv_aload_n hx hb dL_seal_3 rfl (lv_at hl 0 rfl) ?_
  refine lv_iload_n hx hb dL_seal_4 rfl (lv_at hl 1 rfl) ?_
  refine lv_iload_n hx hb dL_seal_5 rfl (lv_at hl 2 rfl) ?_
  refine lv_iload_n hx hb dL_seal_6 rfl (lv_at hl 3 rfl) ?_
  refine lv_iload hx hb dL_seal_7 (lv_at hl 4 rfl) ?_
  refine lv_iload hx hb dL_seal_9 (lv_at hl 5 rfl) ?_
  refine ru_V (As := [Value.int (iI a1), Value.int (iI a2), Value.int (iI a3), Value.int (iI a4), Value.int (iI a5)]) (rest := [Value.int (iI 0), Value.ref oa]) (wr := [outC oa z0 τ]) ⟨hx, hb, hml, hown, hts⟩ hM gL_seal_X9_seal cd_X9_seal rfl rfl ⟨rfl, rfl⟩ ⟨Nat.le_of_ble_eq_true rfl, Nat.le_of_ble_eq_true rfl⟩ hK hZT hZU hP hD hS (List.perm_append_comm (l₁ := [outC oa z0 τ])) 0 hfs rfl rfl rfl hl rfl (Nat.le_of_ble_eq_true rfl) dL_seal_11 ⟨Nat.le_of_ble_eq_true rfl, Nat.le_of_ble_eq_true rfl⟩ hf hfx (fun E w1 H locs q9 ce9 hZ hP hD hS y1 y2 y3 => ?_) (fun v w1 H locs hZ hP hD hS => ?_)
  · have hP := hP.pm (List.perm_append_comm (l₂ := [outC oa z0 τ]))
    rcases hE _ _ hZ with rfl | rfl | rfl
    · refine vx_catch (E := nIO) (name := nIO) hown (tableOf []) ⟨0, 16, 19, 28⟩ (tableOf [(0, 16, 23, 13), (0, 16, 27, 15)]) htab (fun z hz => nomatch hz) rfl (by decide) (hts _ (List.mem_of_getElem? (i := 1) rfl) : (Cond.classLink RL 28 "java/lang/IndexOutOfBoundsException").before _ s = true) (hZT.2 _ (xB_c _ (by decide)) _) y1 y2 y3 ?_
      refine W.eq (g2 := F0 m 19 ls [Value.ref q9]) rfl ?_
      refine lv_astore (lv' := (7, Value.ref q9) :: [(0, Value.ref x), (1, Value.int (iI a1)), (2, Value.int (iI a2)), (3, Value.int (iI a3)), (4, Value.int (iI a4)), (5, Value.int (iI a5)), (6, Value.ref oa)]) hx hb dL_seal_19 hl (by decide) rfl (fun ls hl => ?_)
      refine lv_iconst (v := iI 1) hx hb dL_seal_21 (by decide) ?_
      exact q_iret hx hb hr hlocks hP hS ⟨Nat.le_of_ble_eq_true rfl, Nat.le_of_ble_eq_true rfl⟩ (Or.inr (Or.inl ⟨w1, hZ, rfl, rfl⟩)) dL_seal_22
    · refine vx_catch (E := nIA) (name := nIA) hown (tableOf [(0, 16, 19, 28)]) ⟨0, 16, 23, 13⟩ (tableOf [(0, 16, 27, 15)]) htab (fun z hz => by
        rcases List.mem_cons.mp hz with rfl | hz
        · exact Or.inr ⟨by decide, nIO, (hts _ (List.mem_of_getElem? (i := 1) rfl) : (Cond.classLink RL 28 "java/lang/IndexOutOfBoundsException").before _ s = true), hZC _ (by decide : (nIA, nIO) ∈ ncL)⟩
        cases hz) rfl (by decide) (hts _ (List.mem_of_getElem? (i := 2) rfl) : (Cond.classLink RL 13 "java/lang/IllegalArgumentException").before _ s = true) (hZT.2 _ (xB_c _ (by decide)) _) y1 y2 y3 ?_
      refine W.eq (g2 := F0 m 23 ls [Value.ref q9]) rfl ?_
      refine lv_astore (lv' := (7, Value.ref q9) :: [(0, Value.ref x), (1, Value.int (iI a1)), (2, Value.int (iI a2)), (3, Value.int (iI a3)), (4, Value.int (iI a4)), (5, Value.int (iI a5)), (6, Value.ref oa)]) hx hb dL_seal_23 hl (by decide) rfl (fun ls hl => ?_)
      refine lv_iconst (v := iI 2) hx hb dL_seal_25 (by decide) ?_
      exact q_iret hx hb hr hlocks hP hS ⟨Nat.le_of_ble_eq_true rfl, Nat.le_of_ble_eq_true rfl⟩ (Or.inr (Or.inr (Or.inl ⟨w1, hZ, rfl, rfl⟩))) dL_seal_26
    · refine vx_catch (E := nIS) (name := nIS) hown (tableOf [(0, 16, 19, 28), (0, 16, 23, 13)]) ⟨0, 16, 27, 15⟩ (tableOf []) htab (fun z hz => by
        rcases List.mem_cons.mp hz with rfl | hz
        · exact Or.inr ⟨by decide, nIO, (hts _ (List.mem_of_getElem? (i := 1) rfl) : (Cond.classLink RL 28 "java/lang/IndexOutOfBoundsException").before _ s = true), hZC _ (by decide : (nIS, nIO) ∈ ncL)⟩
        rcases List.mem_cons.mp hz with rfl | hz
        · exact Or.inr ⟨by decide, nIA, (hts _ (List.mem_of_getElem? (i := 2) rfl) : (Cond.classLink RL 13 "java/lang/IllegalArgumentException").before _ s = true), hZC _ (by decide : (nIS, nIA) ∈ ncL)⟩
        cases hz) rfl (by decide) (hts _ (List.mem_of_getElem? (i := 3) rfl) : (Cond.classLink RL 15 "java/lang/IllegalStateException").before _ s = true) (hZT.2 _ (xB_c _ (by decide)) _) y1 y2 y3 ?_
      refine W.eq (g2 := F0 m 27 ls [Value.ref q9]) rfl ?_
      refine lv_astore (lv' := (7, Value.ref q9) :: [(0, Value.ref x), (1, Value.int (iI a1)), (2, Value.int (iI a2)), (3, Value.int (iI a3)), (4, Value.int (iI a4)), (5, Value.int (iI a5)), (6, Value.ref oa)]) hx hb dL_seal_27 hl (by decide) rfl (fun ls hl => ?_)
      refine lv_iconst (v := iI 3) hx hb dL_seal_29 (by decide) ?_
      exact q_iret hx hb hr hlocks hP hS ⟨Nat.le_of_ble_eq_true rfl, Nat.le_of_ble_eq_true rfl⟩ (Or.inr (Or.inr (Or.inr (⟨w1, hZ, rfl, rfl⟩)))) dL_seal_30
  · have hP := hP.pm (List.perm_append_comm (l₂ := [outC oa z0 τ]))
    have hD := hD.pm (List.perm_append_comm (l₂ := [outC oa z0 τ]))
    obtain ⟨z, rfl⟩ := hint _ _ hZ
    refine tl_some ?_
    refine lv_i2l (v := z.toInt64) hx hb dL_seal_14 rfl ?_
    refine q_last hx hb hK hP hD hS dL_seal_15 (fun H locs hP hD hS => ?_)
    refine lv_goto (tgt := 31) hx hb dL_seal_16 (by decide) ?_
    refine lv_iconst (v := iI 0) hx hb dL_seal_31 (by decide) ?_
    exact q_iret hx hb hr hlocks hP hS ⟨Nat.le_of_ble_eq_true rfl, Nat.le_of_ble_eq_true rfl⟩ (Or.inl ⟨z, w1, hZ, rfl, rfl⟩) dL_seal_32

theorem cd_L_show : cd yL_show 4 := by decide +kernel
set_option maxRecDepth 100000 in
theorem c_L_show (l : Launch) (g : va_G) (τ : Nat → ClassId) (x oa : Nat) (z0 : Int64) (wc : va_W) (Z : Option Value → va_W → Prop) (Zx : String → va_W → Prop) (a1 : Int) (a2 : Int) (fs : List Value) (hfs : wc[0]? = some (x, .inr (9, fs))) (hM : uMet l yX9_show wsX9_show { frames := 9, cells := 1, slots := 6, locals := 152 } g τ [Value.ref x, Value.int (iI a1), Value.int (iI a2)] wc Z Zx) (hf : ∀ v w1, Z v w1 → w1.map Prod.fst = wc.map Prod.fst) (hfx : ∀ E w1, Zx E w1 → w1.map Prod.fst = wc.map Prod.fst) (hE : ∀ E w1, Zx E w1 → E = nIO ∨ E = nIA) (hint : ∀ v w1, Z v w1 → ∃ z : Int32, v = some (.int z)) : qMet l yL_show wsL_show { frames := 10, cells := 1, slots := 6, locals := 174 } g τ [Value.ref x, Value.int (iI a1), Value.int (iI a2), Value.ref oa] ([outC oa z0 τ] ++ wc) (fun v w => LR Z oa τ v w ∨ LX Zx nIO 1 oa z0 τ v w ∨ LX Zx nIA 2 oa z0 τ v w) := by
  refine qMet_of (cc := cL_show) (maxL := 5) (ret := some .int) (hh := [(0, 10, 13, 28), (0, 10, 17, 13)]) (lv := [(0, Value.ref x), (1, Value.int (iI a1)), (2, Value.int (iI a2)), (3, Value.ref oa)]) (by decide) rfl (Nat.le_of_ble_eq_true rfl) rfl ?_
  intro p e s m below meth c hx hb hr hml hts hown hlocks htab A H hP hD hS hK hZT hZU hZC ls hl
  refine lv_aload_n hx hb dL_show_0 rfl (lv_at hl 3 rfl) ?_
  refine lv_iconst (v := iI 0) hx hb dL_show_1 (by decide) ?_
  refine lv_aload_n hx hb dL_show_2 rfl (lv_at hl 0 rfl) ?_
  refine lv_iload_n hx hb dL_show_3 rfl (lv_at hl 1 rfl) ?_
  refine lv_iload_n hx hb dL_show_4 rfl (lv_at hl 2 rfl) ?_
  refine ru_V (As := [Value.int (iI a1), Value.int (iI a2)]) (rest := [Value.int (iI 0), Value.ref oa]) (wr := [outC oa z0 τ]) ⟨hx, hb, hml, hown, hts⟩ hM gL_show_X9_show cd_X9_show rfl rfl ⟨rfl, rfl⟩ ⟨Nat.le_of_ble_eq_true rfl, Nat.le_of_ble_eq_true rfl⟩ hK hZT hZU hP hD hS (List.perm_append_comm (l₁ := [outC oa z0 τ])) 0 hfs rfl rfl rfl hl rfl (Nat.le_of_ble_eq_true rfl) dL_show_5 ⟨Nat.le_of_ble_eq_true rfl, Nat.le_of_ble_eq_true rfl⟩ hf hfx (fun E w1 H locs q9 ce9 hZ hP hD hS y1 y2 y3 => ?_) (fun v w1 H locs hZ hP hD hS => ?_)
  · have hP := hP.pm (List.perm_append_comm (l₂ := [outC oa z0 τ]))
    rcases hE _ _ hZ with rfl | rfl
    · refine vx_catch (E := nIO) (name := nIO) hown (tableOf []) ⟨0, 10, 13, 28⟩ (tableOf [(0, 10, 17, 13)]) htab (fun z hz => nomatch hz) rfl (by decide) (hts _ (List.mem_of_getElem? (i := 1) rfl) : (Cond.classLink RL 28 "java/lang/IndexOutOfBoundsException").before _ s = true) (hZT.2 _ (xB_c _ (by decide)) _) y1 y2 y3 ?_
      refine W.eq (g2 := F0 m 13 ls [Value.ref q9]) rfl ?_
      refine lv_astore (lv' := (4, Value.ref q9) :: [(0, Value.ref x), (1, Value.int (iI a1)), (2, Value.int (iI a2)), (3, Value.ref oa)]) hx hb dL_show_13 hl (by decide) rfl (fun ls hl => ?_)
      refine lv_iconst (v := iI 1) hx hb dL_show_15 (by decide) ?_
      exact q_iret hx hb hr hlocks hP hS ⟨Nat.le_of_ble_eq_true rfl, Nat.le_of_ble_eq_true rfl⟩ (Or.inr (Or.inl ⟨w1, hZ, rfl, rfl⟩)) dL_show_16
    · refine vx_catch (E := nIA) (name := nIA) hown (tableOf [(0, 10, 13, 28)]) ⟨0, 10, 17, 13⟩ (tableOf []) htab (fun z hz => by
        rcases List.mem_cons.mp hz with rfl | hz
        · exact Or.inr ⟨by decide, nIO, (hts _ (List.mem_of_getElem? (i := 1) rfl) : (Cond.classLink RL 28 "java/lang/IndexOutOfBoundsException").before _ s = true), hZC _ (by decide : (nIA, nIO) ∈ ncL)⟩
        cases hz) rfl (by decide) (hts _ (List.mem_of_getElem? (i := 2) rfl) : (Cond.classLink RL 13 "java/lang/IllegalArgumentException").before _ s = true) (hZT.2 _ (xB_c _ (by decide)) _) y1 y2 y3 ?_
      refine W.eq (g2 := F0 m 17 ls [Value.ref q9]) rfl ?_
      refine lv_astore (lv' := (4, Value.ref q9) :: [(0, Value.ref x), (1, Value.int (iI a1)), (2, Value.int (iI a2)), (3, Value.ref oa)]) hx hb dL_show_17 hl (by decide) rfl (fun ls hl => ?_)
      refine lv_iconst (v := iI 2) hx hb dL_show_19 (by decide) ?_
      exact q_iret hx hb hr hlocks hP hS ⟨Nat.le_of_ble_eq_true rfl, Nat.le_of_ble_eq_true rfl⟩ (Or.inr (Or.inr (⟨w1, hZ, rfl, rfl⟩))) dL_show_20
  · have hP := hP.pm (List.perm_append_comm (l₂ := [outC oa z0 τ]))
    have hD := hD.pm (List.perm_append_comm (l₂ := [outC oa z0 τ]))
    obtain ⟨z, rfl⟩ := hint _ _ hZ
    refine tl_some ?_
    refine lv_i2l (v := z.toInt64) hx hb dL_show_8 rfl ?_
    refine q_last hx hb hK hP hD hS dL_show_9 (fun H locs hP hD hS => ?_)
    refine lv_goto (tgt := 21) hx hb dL_show_10 (by decide) ?_
    refine lv_iconst (v := iI 0) hx hb dL_show_21 (by decide) ?_
    exact q_iret hx hb hr hlocks hP hS ⟨Nat.le_of_ble_eq_true rfl, Nat.le_of_ble_eq_true rfl⟩ (Or.inl ⟨z, w1, hZ, rfl, rfl⟩) dL_show_22

theorem cd_L_hang : cd yL_hang 4 := by decide +kernel
set_option maxRecDepth 100000 in
theorem c_L_hang (l : Launch) (g : va_G) (τ : Nat → ClassId) (x oa : Nat) (z0 : Int64) (wc : va_W) (Z : Option Value → va_W → Prop) (Zx : String → va_W → Prop) (a1 : Int) (a2 : Int) (fs : List Value) (hfs : wc[0]? = some (x, .inr (9, fs))) (hM : uMet l yX9_hang wsX9_hang { frames := 9, cells := 1, slots := 6, locals := 152 } g τ [Value.ref x, Value.int (iI a1), Value.int (iI a2)] wc Z Zx) (hf : ∀ v w1, Z v w1 → w1.map Prod.fst = wc.map Prod.fst) (hfx : ∀ E w1, Zx E w1 → w1.map Prod.fst = wc.map Prod.fst) (hE : ∀ E w1, Zx E w1 → E = nIO) (hint : ∀ v w1, Z v w1 → ∃ z : Int32, v = some (.int z)) : qMet l yL_hang wsL_hang { frames := 10, cells := 1, slots := 6, locals := 174 } g τ [Value.ref x, Value.int (iI a1), Value.int (iI a2), Value.ref oa] ([outC oa z0 τ] ++ wc) (fun v w => LR Z oa τ v w ∨ LX Zx nIO 1 oa z0 τ v w) := by
  refine qMet_of (cc := cL_hang) (maxL := 5) (ret := some .int) (hh := [(0, 10, 13, 28)]) (lv := [(0, Value.ref x), (1, Value.int (iI a1)), (2, Value.int (iI a2)), (3, Value.ref oa)]) (by decide) rfl (Nat.le_of_ble_eq_true rfl) rfl ?_
  intro p e s m below meth c hx hb hr hml hts hown hlocks htab A H hP hD hS hK hZT hZU hZC ls hl
  refine lv_aload_n hx hb dL_hang_0 rfl (lv_at hl 3 rfl) ?_
  refine lv_iconst (v := iI 0) hx hb dL_hang_1 (by decide) ?_
  refine lv_aload_n hx hb dL_hang_2 rfl (lv_at hl 0 rfl) ?_
  refine lv_iload_n hx hb dL_hang_3 rfl (lv_at hl 1 rfl) ?_
  refine lv_iload_n hx hb dL_hang_4 rfl (lv_at hl 2 rfl) ?_
  refine ru_V (As := [Value.int (iI a1), Value.int (iI a2)]) (rest := [Value.int (iI 0), Value.ref oa]) (wr := [outC oa z0 τ]) ⟨hx, hb, hml, hown, hts⟩ hM gL_hang_X9_hang cd_X9_hang rfl rfl ⟨rfl, rfl⟩ ⟨Nat.le_of_ble_eq_true rfl, Nat.le_of_ble_eq_true rfl⟩ hK hZT hZU hP hD hS (List.perm_append_comm (l₁ := [outC oa z0 τ])) 0 hfs rfl rfl rfl hl rfl (Nat.le_of_ble_eq_true rfl) dL_hang_5 ⟨Nat.le_of_ble_eq_true rfl, Nat.le_of_ble_eq_true rfl⟩ hf hfx (fun E w1 H locs q9 ce9 hZ hP hD hS y1 y2 y3 => ?_) (fun v w1 H locs hZ hP hD hS => ?_)
  · have hP := hP.pm (List.perm_append_comm (l₂ := [outC oa z0 τ]))
    have hEr := hE _ _ hZ
    subst hEr
    · refine vx_catch (E := nIO) (name := nIO) hown (tableOf []) ⟨0, 10, 13, 28⟩ (tableOf []) htab (fun z hz => nomatch hz) rfl (by decide) (hts _ (List.mem_of_getElem? (i := 1) rfl) : (Cond.classLink RL 28 "java/lang/IndexOutOfBoundsException").before _ s = true) (hZT.2 _ (xB_c _ (by decide)) _) y1 y2 y3 ?_
      refine W.eq (g2 := F0 m 13 ls [Value.ref q9]) rfl ?_
      refine lv_astore (lv' := (4, Value.ref q9) :: [(0, Value.ref x), (1, Value.int (iI a1)), (2, Value.int (iI a2)), (3, Value.ref oa)]) hx hb dL_hang_13 hl (by decide) rfl (fun ls hl => ?_)
      refine lv_iconst (v := iI 1) hx hb dL_hang_15 (by decide) ?_
      exact q_iret hx hb hr hlocks hP hS ⟨Nat.le_of_ble_eq_true rfl, Nat.le_of_ble_eq_true rfl⟩ (Or.inr (⟨w1, hZ, rfl, rfl⟩)) dL_hang_16
  · have hP := hP.pm (List.perm_append_comm (l₂ := [outC oa z0 τ]))
    have hD := hD.pm (List.perm_append_comm (l₂ := [outC oa z0 τ]))
    obtain ⟨z, rfl⟩ := hint _ _ hZ
    refine tl_some ?_
    refine lv_i2l (v := z.toInt64) hx hb dL_hang_8 rfl ?_
    refine q_last hx hb hK hP hD hS dL_hang_9 (fun H locs hP hD hS => ?_)
    refine lv_goto (tgt := 17) hx hb dL_hang_10 (by decide) ?_
    refine lv_iconst (v := iI 0) hx hb dL_hang_17 (by decide) ?_
    exact q_iret hx hb hr hlocks hP hS ⟨Nat.le_of_ble_eq_true rfl, Nat.le_of_ble_eq_true rfl⟩ (Or.inl ⟨z, w1, hZ, rfl, rfl⟩) dL_hang_18

theorem cd_L_cut : cd yL_cut 3 := by decide +kernel
set_option maxRecDepth 100000 in
theorem c_L_cut (l : Launch) (g : va_G) (τ : Nat → ClassId) (x oa : Nat) (z0 : Int64) (wc : va_W) (Z : Option Value → va_W → Prop) (Zx : String → va_W → Prop) (a1 : Int) (fs : List Value) (hfs : wc[0]? = some (x, .inr (9, fs))) (hM : uMet l yX9_cut wsX9_cut { frames := 9, cells := 1, slots := 6, locals := 152 } g τ [Value.ref x, Value.int (iI a1)] wc Z Zx) (hf : ∀ v w1, Z v w1 → w1.map Prod.fst = wc.map Prod.fst) (hfx : ∀ E w1, Zx E w1 → w1.map Prod.fst = wc.map Prod.fst) (hE : ∀ E w1, Zx E w1 → E = nIO ∨ E = nIS) (hint : ∀ v w1, Z v w1 → ∃ z : Int32, v = some (.int z)) : qMet l yL_cut wsL_cut { frames := 10, cells := 1, slots := 6, locals := 173 } g τ [Value.ref x, Value.int (iI a1), Value.ref oa] ([outC oa z0 τ] ++ wc) (fun v w => LR Z oa τ v w ∨ LX Zx nIO 1 oa z0 τ v w ∨ LX Zx nIS 2 oa z0 τ v w) := by
  refine qMet_of (cc := cL_cut) (maxL := 4) (ret := some .int) (hh := [(0, 9, 12, 28), (0, 9, 15, 15)]) (lv := [(0, Value.ref x), (1, Value.int (iI a1)), (2, Value.ref oa)]) (by decide) rfl (Nat.le_of_ble_eq_true rfl) rfl ?_
  intro p e s m below meth c hx hb hr hml hts hown hlocks htab A H hP hD hS hK hZT hZU hZC ls hl
  refine lv_aload_n hx hb dL_cut_0 rfl (lv_at hl 2 rfl) ?_
  refine lv_iconst (v := iI 0) hx hb dL_cut_1 (by decide) ?_
  refine lv_aload_n hx hb dL_cut_2 rfl (lv_at hl 0 rfl) ?_
  refine lv_iload_n hx hb dL_cut_3 rfl (lv_at hl 1 rfl) ?_
  refine ru_V (As := [Value.int (iI a1)]) (rest := [Value.int (iI 0), Value.ref oa]) (wr := [outC oa z0 τ]) ⟨hx, hb, hml, hown, hts⟩ hM gL_cut_X9_cut cd_X9_cut rfl rfl ⟨rfl, rfl⟩ ⟨Nat.le_of_ble_eq_true rfl, Nat.le_of_ble_eq_true rfl⟩ hK hZT hZU hP hD hS (List.perm_append_comm (l₁ := [outC oa z0 τ])) 0 hfs rfl rfl rfl hl rfl (Nat.le_of_ble_eq_true rfl) dL_cut_4 ⟨Nat.le_of_ble_eq_true rfl, Nat.le_of_ble_eq_true rfl⟩ hf hfx (fun E w1 H locs q9 ce9 hZ hP hD hS y1 y2 y3 => ?_) (fun v w1 H locs hZ hP hD hS => ?_)
  · have hP := hP.pm (List.perm_append_comm (l₂ := [outC oa z0 τ]))
    rcases hE _ _ hZ with rfl | rfl
    · refine vx_catch (E := nIO) (name := nIO) hown (tableOf []) ⟨0, 9, 12, 28⟩ (tableOf [(0, 9, 15, 15)]) htab (fun z hz => nomatch hz) rfl (by decide) (hts _ (List.mem_of_getElem? (i := 1) rfl) : (Cond.classLink RL 28 "java/lang/IndexOutOfBoundsException").before _ s = true) (hZT.2 _ (xB_c _ (by decide)) _) y1 y2 y3 ?_
      refine W.eq (g2 := F0 m 12 ls [Value.ref q9]) rfl ?_
      refine lv_astore_n (lv' := (3, Value.ref q9) :: [(0, Value.ref x), (1, Value.int (iI a1)), (2, Value.ref oa)]) hx hb dL_cut_12 rfl hl (by decide) rfl (fun ls hl => ?_)
      refine lv_iconst (v := iI 1) hx hb dL_cut_13 (by decide) ?_
      exact q_iret hx hb hr hlocks hP hS ⟨Nat.le_of_ble_eq_true rfl, Nat.le_of_ble_eq_true rfl⟩ (Or.inr (Or.inl ⟨w1, hZ, rfl, rfl⟩)) dL_cut_14
    · refine vx_catch (E := nIS) (name := nIS) hown (tableOf [(0, 9, 12, 28)]) ⟨0, 9, 15, 15⟩ (tableOf []) htab (fun z hz => by
        rcases List.mem_cons.mp hz with rfl | hz
        · exact Or.inr ⟨by decide, nIO, (hts _ (List.mem_of_getElem? (i := 1) rfl) : (Cond.classLink RL 28 "java/lang/IndexOutOfBoundsException").before _ s = true), hZC _ (by decide : (nIS, nIO) ∈ ncL)⟩
        cases hz) rfl (by decide) (hts _ (List.mem_of_getElem? (i := 2) rfl) : (Cond.classLink RL 15 "java/lang/IllegalStateException").before _ s = true) (hZT.2 _ (xB_c _ (by decide)) _) y1 y2 y3 ?_
      refine W.eq (g2 := F0 m 15 ls [Value.ref q9]) rfl ?_
      refine lv_astore_n (lv' := (3, Value.ref q9) :: [(0, Value.ref x), (1, Value.int (iI a1)), (2, Value.ref oa)]) hx hb dL_cut_15 rfl hl (by decide) rfl (fun ls hl => ?_)
      refine lv_iconst (v := iI 2) hx hb dL_cut_16 (by decide) ?_
      exact q_iret hx hb hr hlocks hP hS ⟨Nat.le_of_ble_eq_true rfl, Nat.le_of_ble_eq_true rfl⟩ (Or.inr (Or.inr (⟨w1, hZ, rfl, rfl⟩))) dL_cut_17
  · have hP := hP.pm (List.perm_append_comm (l₂ := [outC oa z0 τ]))
    have hD := hD.pm (List.perm_append_comm (l₂ := [outC oa z0 τ]))
    obtain ⟨z, rfl⟩ := hint _ _ hZ
    refine tl_some ?_
    refine lv_i2l (v := z.toInt64) hx hb dL_cut_7 rfl ?_
    refine q_last hx hb hK hP hD hS dL_cut_8 (fun H locs hP hD hS => ?_)
    refine lv_goto (tgt := 18) hx hb dL_cut_9 (by decide) ?_
    refine lv_iconst (v := iI 0) hx hb dL_cut_18 (by decide) ?_
    exact q_iret hx hb hr hlocks hP hS ⟨Nat.le_of_ble_eq_true rfl, Nat.le_of_ble_eq_true rfl⟩ (Or.inl ⟨z, w1, hZ, rfl, rfl⟩) dL_cut_19

theorem cd_L_shelve : cd yL_shelve 5 := by decide +kernel
set_option maxRecDepth 100000 in
theorem c_L_shelve (l : Launch) (g : va_G) (τ : Nat → ClassId) (x oa : Nat) (z0 : Int64) (wc : va_W) (Z : Option Value → va_W → Prop) (Zx : String → va_W → Prop) (a1 : Int) (a2 : Int) (a3 : Int) (fs : List Value) (hfs : wc[0]? = some (x, .inr (9, fs))) (hM : uMet l yX9_shelve wsX9_shelve { frames := 9, cells := 1, slots := 6, locals := 152 } g τ [Value.ref x, Value.int (iI a1), Value.int (iI a2), Value.int (iI a3)] wc Z Zx) (hf : ∀ v w1, Z v w1 → w1.map Prod.fst = wc.map Prod.fst) (hfx : ∀ E w1, Zx E w1 → w1.map Prod.fst = wc.map Prod.fst) (hE : ∀ E w1, Zx E w1 → E = nIO ∨ E = nIA ∨ E = nIS) (hint : ∀ v w1, Z v w1 → ∃ z : Int32, v = some (.int z)) : qMet l yL_shelve wsL_shelve { frames := 10, cells := 1, slots := 6, locals := 175 } g τ [Value.ref x, Value.int (iI a1), Value.int (iI a2), Value.int (iI a3), Value.ref oa] ([outC oa z0 τ] ++ wc) (fun v w => LR Z oa τ v w ∨ LX Zx nIO 1 oa z0 τ v w ∨ LX Zx nIA 2 oa z0 τ v w ∨ LX Zx nIS 3 oa z0 τ v w) := by
  refine qMet_of (cc := cL_shelve) (maxL := 6) (ret := some .int) (hh := [(0, 12, 15, 28), (0, 12, 19, 13), (0, 12, 23, 15)]) (lv := [(0, Value.ref x), (1, Value.int (iI a1)), (2, Value.int (iI a2)), (3, Value.int (iI a3)), (4, Value.ref oa)]) (by decide) rfl (Nat.le_of_ble_eq_true rfl) rfl ?_
  intro p e s m below meth c hx hb hr hml hts hown hlocks htab A H hP hD hS hK hZT hZU hZC ls hl
  refine lv_aload hx hb dL_shelve_0 (lv_at hl 4 rfl) ?_
  refine lv_iconst (v := iI 0) hx hb dL_shelve_2 (by decide) ?_
  refine lv_aload_n hx hb dL_shelve_3 rfl (lv_at hl 0 rfl) ?_
  refine lv_iload_n hx hb dL_shelve_4 rfl (lv_at hl 1 rfl) ?_
  refine lv_iload_n hx hb dL_shelve_5 rfl (lv_at hl 2 rfl) ?_
  refine lv_iload_n hx hb dL_shelve_6 rfl (lv_at hl 3 rfl) ?_
  refine ru_V (As := [Value.int (iI a1), Value.int (iI a2), Value.int (iI a3)]) (rest := [Value.int (iI 0), Value.ref oa]) (wr := [outC oa z0 τ]) ⟨hx, hb, hml, hown, hts⟩ hM gL_shelve_X9_shelve cd_X9_shelve rfl rfl ⟨rfl, rfl⟩ ⟨Nat.le_of_ble_eq_true rfl, Nat.le_of_ble_eq_true rfl⟩ hK hZT hZU hP hD hS (List.perm_append_comm (l₁ := [outC oa z0 τ])) 0 hfs rfl rfl rfl hl rfl (Nat.le_of_ble_eq_true rfl) dL_shelve_7 ⟨Nat.le_of_ble_eq_true rfl, Nat.le_of_ble_eq_true rfl⟩ hf hfx (fun E w1 H locs q9 ce9 hZ hP hD hS y1 y2 y3 => ?_) (fun v w1 H locs hZ hP hD hS => ?_)
  · have hP := hP.pm (List.perm_append_comm (l₂ := [outC oa z0 τ]))
    rcases hE _ _ hZ with rfl | rfl | rfl
    · refine vx_catch (E := nIO) (name := nIO) hown (tableOf []) ⟨0, 12, 15, 28⟩ (tableOf [(0, 12, 19, 13), (0, 12, 23, 15)]) htab (fun z hz => nomatch hz) rfl (by decide) (hts _ (List.mem_of_getElem? (i := 1) rfl) : (Cond.classLink RL 28 "java/lang/IndexOutOfBoundsException").before _ s = true) (hZT.2 _ (xB_c _ (by decide)) _) y1 y2 y3 ?_
      refine W.eq (g2 := F0 m 15 ls [Value.ref q9]) rfl ?_
      refine lv_astore (lv' := (5, Value.ref q9) :: [(0, Value.ref x), (1, Value.int (iI a1)), (2, Value.int (iI a2)), (3, Value.int (iI a3)), (4, Value.ref oa)]) hx hb dL_shelve_15 hl (by decide) rfl (fun ls hl => ?_)
      refine lv_iconst (v := iI 1) hx hb dL_shelve_17 (by decide) ?_
      exact q_iret hx hb hr hlocks hP hS ⟨Nat.le_of_ble_eq_true rfl, Nat.le_of_ble_eq_true rfl⟩ (Or.inr (Or.inl ⟨w1, hZ, rfl, rfl⟩)) dL_shelve_18
    · refine vx_catch (E := nIA) (name := nIA) hown (tableOf [(0, 12, 15, 28)]) ⟨0, 12, 19, 13⟩ (tableOf [(0, 12, 23, 15)]) htab (fun z hz => by
        rcases List.mem_cons.mp hz with rfl | hz
        · exact Or.inr ⟨by decide, nIO, (hts _ (List.mem_of_getElem? (i := 1) rfl) : (Cond.classLink RL 28 "java/lang/IndexOutOfBoundsException").before _ s = true), hZC _ (by decide : (nIA, nIO) ∈ ncL)⟩
        cases hz) rfl (by decide) (hts _ (List.mem_of_getElem? (i := 2) rfl) : (Cond.classLink RL 13 "java/lang/IllegalArgumentException").before _ s = true) (hZT.2 _ (xB_c _ (by decide)) _) y1 y2 y3 ?_
      refine W.eq (g2 := F0 m 19 ls [Value.ref q9]) rfl ?_
      refine lv_astore (lv' := (5, Value.ref q9) :: [(0, Value.ref x), (1, Value.int (iI a1)), (2, Value.int (iI a2)), (3, Value.int (iI a3)), (4, Value.ref oa)]) hx hb dL_shelve_19 hl (by decide) rfl (fun ls hl => ?_)
      refine lv_iconst (v := iI 2) hx hb dL_shelve_21 (by decide) ?_
      exact q_iret hx hb hr hlocks hP hS ⟨Nat.le_of_ble_eq_true rfl, Nat.le_of_ble_eq_true rfl⟩ (Or.inr (Or.inr (Or.inl ⟨w1, hZ, rfl, rfl⟩))) dL_shelve_22
    · refine vx_catch (E := nIS) (name := nIS) hown (tableOf [(0, 12, 15, 28), (0, 12, 19, 13)]) ⟨0, 12, 23, 15⟩ (tableOf []) htab (fun z hz => by
        rcases List.mem_cons.mp hz with rfl | hz
        · exact Or.inr ⟨by decide, nIO, (hts _ (List.mem_of_getElem? (i := 1) rfl) : (Cond.classLink RL 28 "java/lang/IndexOutOfBoundsException").before _ s = true), hZC _ (by decide : (nIS, nIO) ∈ ncL)⟩
        rcases List.mem_cons.mp hz with rfl | hz
        · exact Or.inr ⟨by decide, nIA, (hts _ (List.mem_of_getElem? (i := 2) rfl) : (Cond.classLink RL 13 "java/lang/IllegalArgumentException").before _ s = true), hZC _ (by decide : (nIS, nIA) ∈ ncL)⟩
        cases hz) rfl (by decide) (hts _ (List.mem_of_getElem? (i := 3) rfl) : (Cond.classLink RL 15 "java/lang/IllegalStateException").before _ s = true) (hZT.2 _ (xB_c _ (by decide)) _) y1 y2 y3 ?_
      refine W.eq (g2 := F0 m 23 ls [Value.ref q9]) rfl ?_
      refine lv_astore (lv' := (5, Value.ref q9) :: [(0, Value.ref x), (1, Value.int (iI a1)), (2, Value.int (iI a2)), (3, Value.int (iI a3)), (4, Value.ref oa)]) hx hb dL_shelve_23 hl (by decide) rfl (fun ls hl => ?_)
      refine lv_iconst (v := iI 3) hx hb dL_shelve_25 (by decide) ?_
      exact q_iret hx hb hr hlocks hP hS ⟨Nat.le_of_ble_eq_true rfl, Nat.le_of_ble_eq_true rfl⟩ (Or.inr (Or.inr (Or.inr (⟨w1, hZ, rfl, rfl⟩)))) dL_shelve_26
  · have hP := hP.pm (List.perm_append_comm (l₂ := [outC oa z0 τ]))
    have hD := hD.pm (List.perm_append_comm (l₂ := [outC oa z0 τ]))
    obtain ⟨z, rfl⟩ := hint _ _ hZ
    refine tl_some ?_
    refine lv_i2l (v := z.toInt64) hx hb dL_shelve_10 rfl ?_
    refine q_last hx hb hK hP hD hS dL_shelve_11 (fun H locs hP hD hS => ?_)
    refine lv_goto (tgt := 27) hx hb dL_shelve_12 (by decide) ?_
    refine lv_iconst (v := iI 0) hx hb dL_shelve_27 (by decide) ?_
    exact q_iret hx hb hr hlocks hP hS ⟨Nat.le_of_ble_eq_true rfl, Nat.le_of_ble_eq_true rfl⟩ (Or.inl ⟨z, w1, hZ, rfl, rfl⟩) dL_shelve_28

theorem cd_L_take : cd yL_take 3 := by decide +kernel
set_option maxRecDepth 100000 in
theorem c_L_take (l : Launch) (g : va_G) (τ : Nat → ClassId) (x oa : Nat) (z0 : Int64) (wc : va_W) (Z : Option Value → va_W → Prop) (Zx : String → va_W → Prop) (a1 : Int) (fs : List Value) (hfs : wc[0]? = some (x, .inr (9, fs))) (hM : uMet l yX9_take wsX9_take { frames := 9, cells := 1, slots := 6, locals := 152 } g τ [Value.ref x, Value.int (iI a1)] wc Z Zx) (hf : ∀ v w1, Z v w1 → w1.map Prod.fst = wc.map Prod.fst) (hfx : ∀ E w1, Zx E w1 → w1.map Prod.fst = wc.map Prod.fst) (hE : ∀ E w1, Zx E w1 → E = nIO ∨ E = nIS) (hint : ∀ v w1, Z v w1 → ∃ z : Int32, v = some (.int z)) : qMet l yL_take wsL_take { frames := 10, cells := 1, slots := 6, locals := 173 } g τ [Value.ref x, Value.int (iI a1), Value.ref oa] ([outC oa z0 τ] ++ wc) (fun v w => LR Z oa τ v w ∨ LX Zx nIO 1 oa z0 τ v w ∨ LX Zx nIS 2 oa z0 τ v w) := by
  refine qMet_of (cc := cL_take) (maxL := 4) (ret := some .int) (hh := [(0, 9, 12, 28), (0, 9, 15, 15)]) (lv := [(0, Value.ref x), (1, Value.int (iI a1)), (2, Value.ref oa)]) (by decide) rfl (Nat.le_of_ble_eq_true rfl) rfl ?_
  intro p e s m below meth c hx hb hr hml hts hown hlocks htab A H hP hD hS hK hZT hZU hZC ls hl
  refine lv_aload_n hx hb dL_take_0 rfl (lv_at hl 2 rfl) ?_
  refine lv_iconst (v := iI 0) hx hb dL_take_1 (by decide) ?_
  refine lv_aload_n hx hb dL_take_2 rfl (lv_at hl 0 rfl) ?_
  refine lv_iload_n hx hb dL_take_3 rfl (lv_at hl 1 rfl) ?_
  refine ru_V (As := [Value.int (iI a1)]) (rest := [Value.int (iI 0), Value.ref oa]) (wr := [outC oa z0 τ]) ⟨hx, hb, hml, hown, hts⟩ hM gL_take_X9_take cd_X9_take rfl rfl ⟨rfl, rfl⟩ ⟨Nat.le_of_ble_eq_true rfl, Nat.le_of_ble_eq_true rfl⟩ hK hZT hZU hP hD hS (List.perm_append_comm (l₁ := [outC oa z0 τ])) 0 hfs rfl rfl rfl hl rfl (Nat.le_of_ble_eq_true rfl) dL_take_4 ⟨Nat.le_of_ble_eq_true rfl, Nat.le_of_ble_eq_true rfl⟩ hf hfx (fun E w1 H locs q9 ce9 hZ hP hD hS y1 y2 y3 => ?_) (fun v w1 H locs hZ hP hD hS => ?_)
  · have hP := hP.pm (List.perm_append_comm (l₂ := [outC oa z0 τ]))
    rcases hE _ _ hZ with rfl | rfl
    · refine vx_catch (E := nIO) (name := nIO) hown (tableOf []) ⟨0, 9, 12, 28⟩ (tableOf [(0, 9, 15, 15)]) htab (fun z hz => nomatch hz) rfl (by decide) (hts _ (List.mem_of_getElem? (i := 1) rfl) : (Cond.classLink RL 28 "java/lang/IndexOutOfBoundsException").before _ s = true) (hZT.2 _ (xB_c _ (by decide)) _) y1 y2 y3 ?_
      refine W.eq (g2 := F0 m 12 ls [Value.ref q9]) rfl ?_
      refine lv_astore_n (lv' := (3, Value.ref q9) :: [(0, Value.ref x), (1, Value.int (iI a1)), (2, Value.ref oa)]) hx hb dL_take_12 rfl hl (by decide) rfl (fun ls hl => ?_)
      refine lv_iconst (v := iI 1) hx hb dL_take_13 (by decide) ?_
      exact q_iret hx hb hr hlocks hP hS ⟨Nat.le_of_ble_eq_true rfl, Nat.le_of_ble_eq_true rfl⟩ (Or.inr (Or.inl ⟨w1, hZ, rfl, rfl⟩)) dL_take_14
    · refine vx_catch (E := nIS) (name := nIS) hown (tableOf [(0, 9, 12, 28)]) ⟨0, 9, 15, 15⟩ (tableOf []) htab (fun z hz => by
        rcases List.mem_cons.mp hz with rfl | hz
        · exact Or.inr ⟨by decide, nIO, (hts _ (List.mem_of_getElem? (i := 1) rfl) : (Cond.classLink RL 28 "java/lang/IndexOutOfBoundsException").before _ s = true), hZC _ (by decide : (nIS, nIO) ∈ ncL)⟩
        cases hz) rfl (by decide) (hts _ (List.mem_of_getElem? (i := 2) rfl) : (Cond.classLink RL 15 "java/lang/IllegalStateException").before _ s = true) (hZT.2 _ (xB_c _ (by decide)) _) y1 y2 y3 ?_
      refine W.eq (g2 := F0 m 15 ls [Value.ref q9]) rfl ?_
      refine lv_astore_n (lv' := (3, Value.ref q9) :: [(0, Value.ref x), (1, Value.int (iI a1)), (2, Value.ref oa)]) hx hb dL_take_15 rfl hl (by decide) rfl (fun ls hl => ?_)
      refine lv_iconst (v := iI 2) hx hb dL_take_16 (by decide) ?_
      exact q_iret hx hb hr hlocks hP hS ⟨Nat.le_of_ble_eq_true rfl, Nat.le_of_ble_eq_true rfl⟩ (Or.inr (Or.inr (⟨w1, hZ, rfl, rfl⟩))) dL_take_17
  · have hP := hP.pm (List.perm_append_comm (l₂ := [outC oa z0 τ]))
    have hD := hD.pm (List.perm_append_comm (l₂ := [outC oa z0 τ]))
    obtain ⟨z, rfl⟩ := hint _ _ hZ
    refine tl_some ?_
    refine lv_i2l (v := z.toInt64) hx hb dL_take_7 rfl ?_
    refine q_last hx hb hK hP hD hS dL_take_8 (fun H locs hP hD hS => ?_)
    refine lv_goto (tgt := 18) hx hb dL_take_9 (by decide) ?_
    refine lv_iconst (v := iI 0) hx hb dL_take_18 (by decide) ?_
    exact q_iret hx hb hr hlocks hP hS ⟨Nat.le_of_ble_eq_true rfl, Nat.le_of_ble_eq_true rfl⟩ (Or.inl ⟨z, w1, hZ, rfl, rfl⟩) dL_take_19

theorem cd_L_sort : cd yL_sort 3 := by decide +kernel
set_option maxRecDepth 100000 in
theorem c_L_sort (l : Launch) (g : va_G) (τ : Nat → ClassId) (x oa : Nat) (z0 : Int64) (wc : va_W) (Z : Option Value → va_W → Prop) (Zx : String → va_W → Prop) (a1 : Int) (fs : List Value) (hfs : wc[0]? = some (x, .inr (9, fs))) (hM : uMet l yX9_sort wsX9_sort { frames := 9, cells := 1, slots := 6, locals := 152 } g τ [Value.ref x, Value.int (iI a1)] wc Z Zx) (hf : ∀ v w1, Z v w1 → w1.map Prod.fst = wc.map Prod.fst) (hfx : ∀ E w1, Zx E w1 → w1.map Prod.fst = wc.map Prod.fst) (hE : ∀ E w1, Zx E w1 → E = nIO) (hint : ∀ v w1, Z v w1 → ∃ z : Int32, v = some (.int z)) : qMet l yL_sort wsL_sort { frames := 10, cells := 1, slots := 6, locals := 173 } g τ [Value.ref x, Value.int (iI a1), Value.ref oa] ([outC oa z0 τ] ++ wc) (fun v w => LR Z oa τ v w ∨ LX Zx nIO 1 oa z0 τ v w) := by
  refine qMet_of (cc := cL_sort) (maxL := 4) (ret := some .int) (hh := [(0, 9, 12, 28)]) (lv := [(0, Value.ref x), (1, Value.int (iI a1)), (2, Value.ref oa)]) (by decide) rfl (Nat.le_of_ble_eq_true rfl) rfl ?_
  intro p e s m below meth c hx hb hr hml hts hown hlocks htab A H hP hD hS hK hZT hZU hZC ls hl
  refine lv_aload_n hx hb dL_sort_0 rfl (lv_at hl 2 rfl) ?_
  refine lv_iconst (v := iI 0) hx hb dL_sort_1 (by decide) ?_
  refine lv_aload_n hx hb dL_sort_2 rfl (lv_at hl 0 rfl) ?_
  refine lv_iload_n hx hb dL_sort_3 rfl (lv_at hl 1 rfl) ?_
  refine ru_V (As := [Value.int (iI a1)]) (rest := [Value.int (iI 0), Value.ref oa]) (wr := [outC oa z0 τ]) ⟨hx, hb, hml, hown, hts⟩ hM gL_sort_X9_sort cd_X9_sort rfl rfl ⟨rfl, rfl⟩ ⟨Nat.le_of_ble_eq_true rfl, Nat.le_of_ble_eq_true rfl⟩ hK hZT hZU hP hD hS (List.perm_append_comm (l₁ := [outC oa z0 τ])) 0 hfs rfl rfl rfl hl rfl (Nat.le_of_ble_eq_true rfl) dL_sort_4 ⟨Nat.le_of_ble_eq_true rfl, Nat.le_of_ble_eq_true rfl⟩ hf hfx (fun E w1 H locs q9 ce9 hZ hP hD hS y1 y2 y3 => ?_) (fun v w1 H locs hZ hP hD hS => ?_)
  · have hP := hP.pm (List.perm_append_comm (l₂ := [outC oa z0 τ]))
    have hEr := hE _ _ hZ
    subst hEr
    · refine vx_catch (E := nIO) (name := nIO) hown (tableOf []) ⟨0, 9, 12, 28⟩ (tableOf []) htab (fun z hz => nomatch hz) rfl (by decide) (hts _ (List.mem_of_getElem? (i := 1) rfl) : (Cond.classLink RL 28 "java/lang/IndexOutOfBoundsException").before _ s = true) (hZT.2 _ (xB_c _ (by decide)) _) y1 y2 y3 ?_
      refine W.eq (g2 := F0 m 12 ls [Value.ref q9]) rfl ?_
      refine lv_astore_n (lv' := (3, Value.ref q9) :: [(0, Value.ref x), (1, Value.int (iI a1)), (2, Value.ref oa)]) hx hb dL_sort_12 rfl hl (by decide) rfl (fun ls hl => ?_)
      refine lv_iconst (v := iI 1) hx hb dL_sort_13 (by decide) ?_
      exact q_iret hx hb hr hlocks hP hS ⟨Nat.le_of_ble_eq_true rfl, Nat.le_of_ble_eq_true rfl⟩ (Or.inr (⟨w1, hZ, rfl, rfl⟩)) dL_sort_14
  · have hP := hP.pm (List.perm_append_comm (l₂ := [outC oa z0 τ]))
    have hD := hD.pm (List.perm_append_comm (l₂ := [outC oa z0 τ]))
    obtain ⟨z, rfl⟩ := hint _ _ hZ
    refine tl_some ?_
    refine lv_i2l (v := z.toInt64) hx hb dL_sort_7 rfl ?_
    refine q_last hx hb hK hP hD hS dL_sort_8 (fun H locs hP hD hS => ?_)
    refine lv_goto (tgt := 15) hx hb dL_sort_9 (by decide) ?_
    refine lv_iconst (v := iI 0) hx hb dL_sort_15 (by decide) ?_
    exact q_iret hx hb hr hlocks hP hS ⟨Nat.le_of_ble_eq_true rfl, Nat.le_of_ble_eq_true rfl⟩ (Or.inl ⟨z, w1, hZ, rfl, rfl⟩) dL_sort_16

theorem cd_L_set : cd yL_set 4 := by decide +kernel
set_option maxRecDepth 100000 in
theorem c_L_set (l : Launch) (g : va_G) (τ : Nat → ClassId) (x oa : Nat) (z0 : Int64) (wc : va_W) (Z : Option Value → va_W → Prop) (Zx : String → va_W → Prop) (a1 : Int) (a2 : Int) (fs : List Value) (hfs : wc[0]? = some (x, .inr (9, fs))) (hM : uMet l yX9_set wsX9_set { frames := 9, cells := 1, slots := 6, locals := 152 } g τ [Value.ref x, Value.int (iI a1), Value.int (iI a2)] wc Z Zx) (hf : ∀ v w1, Z v w1 → w1.map Prod.fst = wc.map Prod.fst) (hfx : ∀ E w1, Zx E w1 → w1.map Prod.fst = wc.map Prod.fst) (hE : ∀ E w1, Zx E w1 → E = nIA) (hint : ∀ v w1, Z v w1 → ∃ z : Int32, v = some (.int z)) : qMet l yL_set wsL_set { frames := 10, cells := 1, slots := 6, locals := 174 } g τ [Value.ref x, Value.int (iI a1), Value.int (iI a2), Value.ref oa] ([outC oa z0 τ] ++ wc) (fun v w => LR Z oa τ v w ∨ LX Zx nIA 1 oa z0 τ v w) := by
  refine qMet_of (cc := cL_set) (maxL := 5) (ret := some .int) (hh := [(0, 10, 13, 13)]) (lv := [(0, Value.ref x), (1, Value.int (iI a1)), (2, Value.int (iI a2)), (3, Value.ref oa)]) (by decide) rfl (Nat.le_of_ble_eq_true rfl) rfl ?_
  intro p e s m below meth c hx hb hr hml hts hown hlocks htab A H hP hD hS hK hZT hZU hZC ls hl
  refine lv_aload_n hx hb dL_set_0 rfl (lv_at hl 3 rfl) ?_
  refine lv_iconst (v := iI 0) hx hb dL_set_1 (by decide) ?_
  refine lv_aload_n hx hb dL_set_2 rfl (lv_at hl 0 rfl) ?_
  refine lv_iload_n hx hb dL_set_3 rfl (lv_at hl 1 rfl) ?_
  refine lv_iload_n hx hb dL_set_4 rfl (lv_at hl 2 rfl) ?_
  refine ru_V (As := [Value.int (iI a1), Value.int (iI a2)]) (rest := [Value.int (iI 0), Value.ref oa]) (wr := [outC oa z0 τ]) ⟨hx, hb, hml, hown, hts⟩ hM gL_set_X9_set cd_X9_set rfl rfl ⟨rfl, rfl⟩ ⟨Nat.le_of_ble_eq_true rfl, Nat.le_of_ble_eq_true rfl⟩ hK hZT hZU hP hD hS (List.perm_append_comm (l₁ := [outC oa z0 τ])) 0 hfs rfl rfl rfl hl rfl (Nat.le_of_ble_eq_true rfl) dL_set_5 ⟨Nat.le_of_ble_eq_true rfl, Nat.le_of_ble_eq_true rfl⟩ hf hfx (fun E w1 H locs q9 ce9 hZ hP hD hS y1 y2 y3 => ?_) (fun v w1 H locs hZ hP hD hS => ?_)
  · have hP := hP.pm (List.perm_append_comm (l₂ := [outC oa z0 τ]))
    have hEr := hE _ _ hZ
    subst hEr
    · refine vx_catch (E := nIA) (name := nIA) hown (tableOf []) ⟨0, 10, 13, 13⟩ (tableOf []) htab (fun z hz => nomatch hz) rfl (by decide) (hts _ (List.mem_of_getElem? (i := 1) rfl) : (Cond.classLink RL 13 "java/lang/IllegalArgumentException").before _ s = true) (hZT.2 _ (xB_c _ (by decide)) _) y1 y2 y3 ?_
      refine W.eq (g2 := F0 m 13 ls [Value.ref q9]) rfl ?_
      refine lv_astore (lv' := (4, Value.ref q9) :: [(0, Value.ref x), (1, Value.int (iI a1)), (2, Value.int (iI a2)), (3, Value.ref oa)]) hx hb dL_set_13 hl (by decide) rfl (fun ls hl => ?_)
      refine lv_iconst (v := iI 1) hx hb dL_set_15 (by decide) ?_
      exact q_iret hx hb hr hlocks hP hS ⟨Nat.le_of_ble_eq_true rfl, Nat.le_of_ble_eq_true rfl⟩ (Or.inr (⟨w1, hZ, rfl, rfl⟩)) dL_set_16
  · have hP := hP.pm (List.perm_append_comm (l₂ := [outC oa z0 τ]))
    have hD := hD.pm (List.perm_append_comm (l₂ := [outC oa z0 τ]))
    obtain ⟨z, rfl⟩ := hint _ _ hZ
    refine tl_some ?_
    refine lv_i2l (v := z.toInt64) hx hb dL_set_8 rfl ?_
    refine q_last hx hb hK hP hD hS dL_set_9 (fun H locs hP hD hS => ?_)
    refine lv_goto (tgt := 17) hx hb dL_set_10 (by decide) ?_
    refine lv_iconst (v := iI 0) hx hb dL_set_17 (by decide) ?_
    exact q_iret hx hb hr hlocks hP hS ⟨Nat.le_of_ble_eq_true rfl, Nat.le_of_ble_eq_true rfl⟩ (Or.inl ⟨z, w1, hZ, rfl, rfl⟩) dL_set_18

theorem cd_L_undo : cd yL_undo 2 := by decide +kernel
set_option maxRecDepth 100000 in
theorem c_L_undo (l : Launch) (g : va_G) (τ : Nat → ClassId) (x oa : Nat) (z0 : Int64) (wc : va_W) (Z : Option Value → va_W → Prop) (Zx : String → va_W → Prop) (fs : List Value) (hfs : wc[0]? = some (x, .inr (9, fs))) (hM : uMet l yX9_undo wsX9_undo { frames := 7, cells := 1, slots := 6, locals := 110 } g τ [Value.ref x] wc Z Zx) (hf : ∀ v w1, Z v w1 → w1.map Prod.fst = wc.map Prod.fst) (hfx : ∀ E w1, Zx E w1 → w1.map Prod.fst = wc.map Prod.fst) (hE : ∀ E w1, Zx E w1 → E = nIS) (hint : ∀ v w1, Z v w1 → ∃ z : Int32, v = some (.int z)) : qMet l yL_undo wsL_undo { frames := 8, cells := 1, slots := 6, locals := 130 } g τ [Value.ref x, Value.ref oa] ([outC oa z0 τ] ++ wc) (fun v w => LR Z oa τ v w ∨ LX Zx nIS 1 oa z0 τ v w) := by
  refine qMet_of (cc := cL_undo) (maxL := 3) (ret := some .int) (hh := [(0, 8, 11, 15)]) (lv := [(0, Value.ref x), (1, Value.ref oa)]) (by decide) rfl (Nat.le_of_ble_eq_true rfl) rfl ?_
  intro p e s m below meth c hx hb hr hml hts hown hlocks htab A H hP hD hS hK hZT hZU hZC ls hl
  refine lv_aload_n hx hb dL_undo_0 rfl (lv_at hl 1 rfl) ?_
  refine lv_iconst (v := iI 0) hx hb dL_undo_1 (by decide) ?_
  refine lv_aload_n hx hb dL_undo_2 rfl (lv_at hl 0 rfl) ?_
  refine ru_V (As := []) (rest := [Value.int (iI 0), Value.ref oa]) (wr := [outC oa z0 τ]) ⟨hx, hb, hml, hown, hts⟩ hM gL_undo_X9_undo cd_X9_undo rfl rfl ⟨rfl, rfl⟩ ⟨Nat.le_of_ble_eq_true rfl, Nat.le_of_ble_eq_true rfl⟩ hK hZT hZU hP hD hS (List.perm_append_comm (l₁ := [outC oa z0 τ])) 0 hfs rfl rfl rfl hl rfl (Nat.le_of_ble_eq_true rfl) dL_undo_3 ⟨Nat.le_of_ble_eq_true rfl, Nat.le_of_ble_eq_true rfl⟩ hf hfx (fun E w1 H locs q9 ce9 hZ hP hD hS y1 y2 y3 => ?_) (fun v w1 H locs hZ hP hD hS => ?_)
  · have hP := hP.pm (List.perm_append_comm (l₂ := [outC oa z0 τ]))
    have hEr := hE _ _ hZ
    subst hEr
    · refine vx_catch (E := nIS) (name := nIS) hown (tableOf []) ⟨0, 8, 11, 15⟩ (tableOf []) htab (fun z hz => nomatch hz) rfl (by decide) (hts _ (List.mem_of_getElem? (i := 1) rfl) : (Cond.classLink RL 15 "java/lang/IllegalStateException").before _ s = true) (hZT.2 _ (xB_c _ (by decide)) _) y1 y2 y3 ?_
      refine W.eq (g2 := F0 m 11 ls [Value.ref q9]) rfl ?_
      refine lv_astore_n (lv' := (2, Value.ref q9) :: [(0, Value.ref x), (1, Value.ref oa)]) hx hb dL_undo_11 rfl hl (by decide) rfl (fun ls hl => ?_)
      refine lv_iconst (v := iI 1) hx hb dL_undo_12 (by decide) ?_
      exact q_iret hx hb hr hlocks hP hS ⟨Nat.le_of_ble_eq_true rfl, Nat.le_of_ble_eq_true rfl⟩ (Or.inr (⟨w1, hZ, rfl, rfl⟩)) dL_undo_13
  · have hP := hP.pm (List.perm_append_comm (l₂ := [outC oa z0 τ]))
    have hD := hD.pm (List.perm_append_comm (l₂ := [outC oa z0 τ]))
    obtain ⟨z, rfl⟩ := hint _ _ hZ
    refine tl_some ?_
    refine lv_i2l (v := z.toInt64) hx hb dL_undo_6 rfl ?_
    refine q_last hx hb hK hP hD hS dL_undo_7 (fun H locs hP hD hS => ?_)
    refine lv_goto (tgt := 14) hx hb dL_undo_8 (by decide) ?_
    refine lv_iconst (v := iI 0) hx hb dL_undo_14 (by decide) ?_
    exact q_iret hx hb hr hlocks hP hS ⟨Nat.le_of_ble_eq_true rfl, Nat.le_of_ble_eq_true rfl⟩ (Or.inl ⟨z, w1, hZ, rfl, rfl⟩) dL_undo_15

theorem cd_L_older : cd yL_older 4 := by decide +kernel
set_option maxRecDepth 100000 in
theorem c_L_older (l : Launch) (g : va_G) (τ : Nat → ClassId) (x oa : Nat) (z0 : Int64) (wc : va_W) (Z : Option Value → va_W → Prop) (Zx : String → va_W → Prop) (a1 : Int) (a2 : Int) (fs : List Value) (hfs : wc[0]? = some (x, .inr (9, fs))) (hM : uMet l yX9_older wsX9_older { frames := 7, cells := 1, slots := 6, locals := 110 } g τ [Value.ref x, Value.int (iI a1), Value.int (iI a2)] wc Z Zx) (hf : ∀ v w1, Z v w1 → w1.map Prod.fst = wc.map Prod.fst) (hfx : ∀ E w1, Zx E w1 → w1.map Prod.fst = wc.map Prod.fst) (hE : ∀ E w1, Zx E w1 → E = nIO) (hint : ∀ v w1, Z v w1 → ∃ z : Int32, v = some (.int z)) : qMet l yL_older wsL_older { frames := 8, cells := 1, slots := 6, locals := 132 } g τ [Value.ref x, Value.int (iI a1), Value.int (iI a2), Value.ref oa] ([outC oa z0 τ] ++ wc) (fun v w => LR Z oa τ v w ∨ LX Zx nIO 1 oa z0 τ v w) := by
  refine qMet_of (cc := cL_older) (maxL := 5) (ret := some .int) (hh := [(0, 10, 13, 28)]) (lv := [(0, Value.ref x), (1, Value.int (iI a1)), (2, Value.int (iI a2)), (3, Value.ref oa)]) (by decide) rfl (Nat.le_of_ble_eq_true rfl) rfl ?_
  intro p e s m below meth c hx hb hr hml hts hown hlocks htab A H hP hD hS hK hZT hZU hZC ls hl
  refine lv_aload_n hx hb dL_older_0 rfl (lv_at hl 3 rfl) ?_
  refine lv_iconst (v := iI 0) hx hb dL_older_1 (by decide) ?_
  refine lv_aload_n hx hb dL_older_2 rfl (lv_at hl 0 rfl) ?_
  refine lv_iload_n hx hb dL_older_3 rfl (lv_at hl 1 rfl) ?_
  refine lv_iload_n hx hb dL_older_4 rfl (lv_at hl 2 rfl) ?_
  refine ru_V (As := [Value.int (iI a1), Value.int (iI a2)]) (rest := [Value.int (iI 0), Value.ref oa]) (wr := [outC oa z0 τ]) ⟨hx, hb, hml, hown, hts⟩ hM gL_older_X9_older cd_X9_older rfl rfl ⟨rfl, rfl⟩ ⟨Nat.le_of_ble_eq_true rfl, Nat.le_of_ble_eq_true rfl⟩ hK hZT hZU hP hD hS (List.perm_append_comm (l₁ := [outC oa z0 τ])) 0 hfs rfl rfl rfl hl rfl (Nat.le_of_ble_eq_true rfl) dL_older_5 ⟨Nat.le_of_ble_eq_true rfl, Nat.le_of_ble_eq_true rfl⟩ hf hfx (fun E w1 H locs q9 ce9 hZ hP hD hS y1 y2 y3 => ?_) (fun v w1 H locs hZ hP hD hS => ?_)
  · have hP := hP.pm (List.perm_append_comm (l₂ := [outC oa z0 τ]))
    have hEr := hE _ _ hZ
    subst hEr
    · refine vx_catch (E := nIO) (name := nIO) hown (tableOf []) ⟨0, 10, 13, 28⟩ (tableOf []) htab (fun z hz => nomatch hz) rfl (by decide) (hts _ (List.mem_of_getElem? (i := 1) rfl) : (Cond.classLink RL 28 "java/lang/IndexOutOfBoundsException").before _ s = true) (hZT.2 _ (xB_c _ (by decide)) _) y1 y2 y3 ?_
      refine W.eq (g2 := F0 m 13 ls [Value.ref q9]) rfl ?_
      refine lv_astore (lv' := (4, Value.ref q9) :: [(0, Value.ref x), (1, Value.int (iI a1)), (2, Value.int (iI a2)), (3, Value.ref oa)]) hx hb dL_older_13 hl (by decide) rfl (fun ls hl => ?_)
      refine lv_iconst (v := iI 1) hx hb dL_older_15 (by decide) ?_
      exact q_iret hx hb hr hlocks hP hS ⟨Nat.le_of_ble_eq_true rfl, Nat.le_of_ble_eq_true rfl⟩ (Or.inr (⟨w1, hZ, rfl, rfl⟩)) dL_older_16
  · have hP := hP.pm (List.perm_append_comm (l₂ := [outC oa z0 τ]))
    have hD := hD.pm (List.perm_append_comm (l₂ := [outC oa z0 τ]))
    obtain ⟨z, rfl⟩ := hint _ _ hZ
    refine tl_some ?_
    refine lv_i2l (v := z.toInt64) hx hb dL_older_8 rfl ?_
    refine q_last hx hb hK hP hD hS dL_older_9 (fun H locs hP hD hS => ?_)
    refine lv_goto (tgt := 17) hx hb dL_older_10 (by decide) ?_
    refine lv_iconst (v := iI 0) hx hb dL_older_17 (by decide) ?_
    exact q_iret hx hb hr hlocks hP hS ⟨Nat.le_of_ble_eq_true rfl, Nat.le_of_ble_eq_true rfl⟩ (Or.inl ⟨z, w1, hZ, rfl, rfl⟩) dL_older_18

theorem cd_L_decides : cd yL_decides 3 := by decide +kernel
set_option maxRecDepth 100000 in
theorem c_L_decides (l : Launch) (g : va_G) (τ : Nat → ClassId) (x oa : Nat) (z0 : Int64) (wc : va_W) (Z : Option Value → va_W → Prop) (Zx : String → va_W → Prop) (a1 : Int) (fs : List Value) (hfs : wc[0]? = some (x, .inr (9, fs))) (hM : uMet l yX9_decides wsX9_decides { frames := 7, cells := 1, slots := 6, locals := 110 } g τ [Value.ref x, Value.int (iI a1)] wc Z Zx) (hf : ∀ v w1, Z v w1 → w1.map Prod.fst = wc.map Prod.fst) (hfx : ∀ E w1, Zx E w1 → w1.map Prod.fst = wc.map Prod.fst) (hE : ∀ E w1, Zx E w1 → E = nIO) (hint : ∀ v w1, Z v w1 → ∃ z : Int32, v = some (.int z)) : qMet l yL_decides wsL_decides { frames := 8, cells := 1, slots := 6, locals := 131 } g τ [Value.ref x, Value.int (iI a1), Value.ref oa] ([outC oa z0 τ] ++ wc) (fun v w => LR Z oa τ v w ∨ LX Zx nIO 1 oa z0 τ v w) := by
  refine qMet_of (cc := cL_decides) (maxL := 4) (ret := some .int) (hh := [(0, 9, 12, 28)]) (lv := [(0, Value.ref x), (1, Value.int (iI a1)), (2, Value.ref oa)]) (by decide) rfl (Nat.le_of_ble_eq_true rfl) rfl ?_
  intro p e s m below meth c hx hb hr hml hts hown hlocks htab A H hP hD hS hK hZT hZU hZC ls hl
  refine lv_aload_n hx hb dL_decides_0 rfl (lv_at hl 2 rfl) ?_
  refine lv_iconst (v := iI 0) hx hb dL_decides_1 (by decide) ?_
  refine lv_aload_n hx hb dL_decides_2 rfl (lv_at hl 0 rfl) ?_
  refine lv_iload_n hx hb dL_decides_3 rfl (lv_at hl 1 rfl) ?_
  refine ru_V (As := [Value.int (iI a1)]) (rest := [Value.int (iI 0), Value.ref oa]) (wr := [outC oa z0 τ]) ⟨hx, hb, hml, hown, hts⟩ hM gL_decides_X9_decides cd_X9_decides rfl rfl ⟨rfl, rfl⟩ ⟨Nat.le_of_ble_eq_true rfl, Nat.le_of_ble_eq_true rfl⟩ hK hZT hZU hP hD hS (List.perm_append_comm (l₁ := [outC oa z0 τ])) 0 hfs rfl rfl rfl hl rfl (Nat.le_of_ble_eq_true rfl) dL_decides_4 ⟨Nat.le_of_ble_eq_true rfl, Nat.le_of_ble_eq_true rfl⟩ hf hfx (fun E w1 H locs q9 ce9 hZ hP hD hS y1 y2 y3 => ?_) (fun v w1 H locs hZ hP hD hS => ?_)
  · have hP := hP.pm (List.perm_append_comm (l₂ := [outC oa z0 τ]))
    have hEr := hE _ _ hZ
    subst hEr
    · refine vx_catch (E := nIO) (name := nIO) hown (tableOf []) ⟨0, 9, 12, 28⟩ (tableOf []) htab (fun z hz => nomatch hz) rfl (by decide) (hts _ (List.mem_of_getElem? (i := 1) rfl) : (Cond.classLink RL 28 "java/lang/IndexOutOfBoundsException").before _ s = true) (hZT.2 _ (xB_c _ (by decide)) _) y1 y2 y3 ?_
      refine W.eq (g2 := F0 m 12 ls [Value.ref q9]) rfl ?_
      refine lv_astore_n (lv' := (3, Value.ref q9) :: [(0, Value.ref x), (1, Value.int (iI a1)), (2, Value.ref oa)]) hx hb dL_decides_12 rfl hl (by decide) rfl (fun ls hl => ?_)
      refine lv_iconst (v := iI 1) hx hb dL_decides_13 (by decide) ?_
      exact q_iret hx hb hr hlocks hP hS ⟨Nat.le_of_ble_eq_true rfl, Nat.le_of_ble_eq_true rfl⟩ (Or.inr (⟨w1, hZ, rfl, rfl⟩)) dL_decides_14
  · have hP := hP.pm (List.perm_append_comm (l₂ := [outC oa z0 τ]))
    have hD := hD.pm (List.perm_append_comm (l₂ := [outC oa z0 τ]))
    obtain ⟨z, rfl⟩ := hint _ _ hZ
    refine tl_some ?_
    refine lv_i2l (v := z.toInt64) hx hb dL_decides_7 rfl ?_
    refine q_last hx hb hK hP hD hS dL_decides_8 (fun H locs hP hD hS => ?_)
    refine lv_goto (tgt := 15) hx hb dL_decides_9 (by decide) ?_
    refine lv_iconst (v := iI 0) hx hb dL_decides_15 (by decide) ?_
    exact q_iret hx hb hr hlocks hP hS ⟨Nat.le_of_ble_eq_true rfl, Nat.le_of_ble_eq_true rfl⟩ (Or.inl ⟨z, w1, hZ, rfl, rfl⟩) dL_decides_16

theorem cd_L_ifCracked : cd yL_ifCracked 4 := by decide +kernel
set_option maxRecDepth 100000 in
theorem c_L_ifCracked (l : Launch) (g : va_G) (τ : Nat → ClassId) (x oa : Nat) (z0 : Int64) (wc : va_W) (Z : Option Value → va_W → Prop) (Zx : String → va_W → Prop) (a1 : Int) (a2 : Int) (fs : List Value) (hfs : wc[0]? = some (x, .inr (9, fs))) (hM : uMet l yX9_ifCracked wsX9_ifCracked { frames := 8, cells := 1, slots := 6, locals := 130 } g τ [Value.ref x, Value.int (iI a1), Value.int (iI a2)] wc Z Zx) (hf : ∀ v w1, Z v w1 → w1.map Prod.fst = wc.map Prod.fst) (hfx : ∀ E w1, Zx E w1 → w1.map Prod.fst = wc.map Prod.fst) (hE : ∀ E w1, Zx E w1 → E = nIO ∨ E = nIA ∨ E = nIS) (hint : ∀ v w1, Z v w1 → ∃ z : Int32, v = some (.int z)) : qMet l yL_ifCracked wsL_ifCracked { frames := 9, cells := 1, slots := 6, locals := 152 } g τ [Value.ref x, Value.int (iI a1), Value.int (iI a2), Value.ref oa] ([outC oa z0 τ] ++ wc) (fun v w => LR Z oa τ v w ∨ LX Zx nIO 1 oa z0 τ v w ∨ LX Zx nIA 2 oa z0 τ v w ∨ LX Zx nIS 3 oa z0 τ v w) := by
  refine qMet_of (cc := cL_ifCracked) (maxL := 5) (ret := some .int) (hh := [(0, 10, 13, 28), (0, 10, 17, 13), (0, 10, 21, 15)]) (lv := [(0, Value.ref x), (1, Value.int (iI a1)), (2, Value.int (iI a2)), (3, Value.ref oa)]) (by decide) rfl (Nat.le_of_ble_eq_true rfl) rfl ?_
  intro p e s m below meth c hx hb hr hml hts hown hlocks htab A H hP hD hS hK hZT hZU hZC ls hl
  refine lv_aload_n hx hb dL_ifCracked_0 rfl (lv_at hl 3 rfl) ?_
  refine lv_iconst (v := iI 0) hx hb dL_ifCracked_1 (by decide) ?_
  refine lv_aload_n hx hb dL_ifCracked_2 rfl (lv_at hl 0 rfl) ?_
  refine lv_iload_n hx hb dL_ifCracked_3 rfl (lv_at hl 1 rfl) ?_
  refine lv_iload_n hx hb dL_ifCracked_4 rfl (lv_at hl 2 rfl) ?_
  refine ru_V (As := [Value.int (iI a1), Value.int (iI a2)]) (rest := [Value.int (iI 0), Value.ref oa]) (wr := [outC oa z0 τ]) ⟨hx, hb, hml, hown, hts⟩ hM gL_ifCracked_X9_ifCracked cd_X9_ifCracked rfl rfl ⟨rfl, rfl⟩ ⟨Nat.le_of_ble_eq_true rfl, Nat.le_of_ble_eq_true rfl⟩ hK hZT hZU hP hD hS (List.perm_append_comm (l₁ := [outC oa z0 τ])) 0 hfs rfl rfl rfl hl rfl (Nat.le_of_ble_eq_true rfl) dL_ifCracked_5 ⟨Nat.le_of_ble_eq_true rfl, Nat.le_of_ble_eq_true rfl⟩ hf hfx (fun E w1 H locs q9 ce9 hZ hP hD hS y1 y2 y3 => ?_) (fun v w1 H locs hZ hP hD hS => ?_)
  · have hP := hP.pm (List.perm_append_comm (l₂ := [outC oa z0 τ]))
    rcases hE _ _ hZ with rfl | rfl | rfl
    · refine vx_catch (E := nIO) (name := nIO) hown (tableOf []) ⟨0, 10, 13, 28⟩ (tableOf [(0, 10, 17, 13), (0, 10, 21, 15)]) htab (fun z hz => nomatch hz) rfl (by decide) (hts _ (List.mem_of_getElem? (i := 1) rfl) : (Cond.classLink RL 28 "java/lang/IndexOutOfBoundsException").before _ s = true) (hZT.2 _ (xB_c _ (by decide)) _) y1 y2 y3 ?_
      refine W.eq (g2 := F0 m 13 ls [Value.ref q9]) rfl ?_
      refine lv_astore (lv' := (4, Value.ref q9) :: [(0, Value.ref x), (1, Value.int (iI a1)), (2, Value.int (iI a2)), (3, Value.ref oa)]) hx hb dL_ifCracked_13 hl (by decide) rfl (fun ls hl => ?_)
      refine lv_iconst (v := iI 1) hx hb dL_ifCracked_15 (by decide) ?_
      exact q_iret hx hb hr hlocks hP hS ⟨Nat.le_of_ble_eq_true rfl, Nat.le_of_ble_eq_true rfl⟩ (Or.inr (Or.inl ⟨w1, hZ, rfl, rfl⟩)) dL_ifCracked_16
    · refine vx_catch (E := nIA) (name := nIA) hown (tableOf [(0, 10, 13, 28)]) ⟨0, 10, 17, 13⟩ (tableOf [(0, 10, 21, 15)]) htab (fun z hz => by
        rcases List.mem_cons.mp hz with rfl | hz
        · exact Or.inr ⟨by decide, nIO, (hts _ (List.mem_of_getElem? (i := 1) rfl) : (Cond.classLink RL 28 "java/lang/IndexOutOfBoundsException").before _ s = true), hZC _ (by decide : (nIA, nIO) ∈ ncL)⟩
        cases hz) rfl (by decide) (hts _ (List.mem_of_getElem? (i := 2) rfl) : (Cond.classLink RL 13 "java/lang/IllegalArgumentException").before _ s = true) (hZT.2 _ (xB_c _ (by decide)) _) y1 y2 y3 ?_
      refine W.eq (g2 := F0 m 17 ls [Value.ref q9]) rfl ?_
      refine lv_astore (lv' := (4, Value.ref q9) :: [(0, Value.ref x), (1, Value.int (iI a1)), (2, Value.int (iI a2)), (3, Value.ref oa)]) hx hb dL_ifCracked_17 hl (by decide) rfl (fun ls hl => ?_)
      refine lv_iconst (v := iI 2) hx hb dL_ifCracked_19 (by decide) ?_
      exact q_iret hx hb hr hlocks hP hS ⟨Nat.le_of_ble_eq_true rfl, Nat.le_of_ble_eq_true rfl⟩ (Or.inr (Or.inr (Or.inl ⟨w1, hZ, rfl, rfl⟩))) dL_ifCracked_20
    · refine vx_catch (E := nIS) (name := nIS) hown (tableOf [(0, 10, 13, 28), (0, 10, 17, 13)]) ⟨0, 10, 21, 15⟩ (tableOf []) htab (fun z hz => by
        rcases List.mem_cons.mp hz with rfl | hz
        · exact Or.inr ⟨by decide, nIO, (hts _ (List.mem_of_getElem? (i := 1) rfl) : (Cond.classLink RL 28 "java/lang/IndexOutOfBoundsException").before _ s = true), hZC _ (by decide : (nIS, nIO) ∈ ncL)⟩
        rcases List.mem_cons.mp hz with rfl | hz
        · exact Or.inr ⟨by decide, nIA, (hts _ (List.mem_of_getElem? (i := 2) rfl) : (Cond.classLink RL 13 "java/lang/IllegalArgumentException").before _ s = true), hZC _ (by decide : (nIS, nIA) ∈ ncL)⟩
        cases hz) rfl (by decide) (hts _ (List.mem_of_getElem? (i := 3) rfl) : (Cond.classLink RL 15 "java/lang/IllegalStateException").before _ s = true) (hZT.2 _ (xB_c _ (by decide)) _) y1 y2 y3 ?_
      refine W.eq (g2 := F0 m 21 ls [Value.ref q9]) rfl ?_
      refine lv_astore (lv' := (4, Value.ref q9) :: [(0, Value.ref x), (1, Value.int (iI a1)), (2, Value.int (iI a2)), (3, Value.ref oa)]) hx hb dL_ifCracked_21 hl (by decide) rfl (fun ls hl => ?_)
      refine lv_iconst (v := iI 3) hx hb dL_ifCracked_23 (by decide) ?_
      exact q_iret hx hb hr hlocks hP hS ⟨Nat.le_of_ble_eq_true rfl, Nat.le_of_ble_eq_true rfl⟩ (Or.inr (Or.inr (Or.inr (⟨w1, hZ, rfl, rfl⟩)))) dL_ifCracked_24
  · have hP := hP.pm (List.perm_append_comm (l₂ := [outC oa z0 τ]))
    have hD := hD.pm (List.perm_append_comm (l₂ := [outC oa z0 τ]))
    obtain ⟨z, rfl⟩ := hint _ _ hZ
    refine tl_some ?_
    refine lv_i2l (v := z.toInt64) hx hb dL_ifCracked_8 rfl ?_
    refine q_last hx hb hK hP hD hS dL_ifCracked_9 (fun H locs hP hD hS => ?_)
    refine lv_goto (tgt := 25) hx hb dL_ifCracked_10 (by decide) ?_
    refine lv_iconst (v := iI 0) hx hb dL_ifCracked_25 (by decide) ?_
    exact q_iret hx hb hr hlocks hP hS ⟨Nat.le_of_ble_eq_true rfl, Nat.le_of_ble_eq_true rfl⟩ (Or.inl ⟨z, w1, hZ, rfl, rfl⟩) dL_ifCracked_26

theorem cd_L_ifHung : cd yL_ifHung 4 := by decide +kernel
set_option maxRecDepth 100000 in
theorem c_L_ifHung (l : Launch) (g : va_G) (τ : Nat → ClassId) (x oa : Nat) (z0 : Int64) (wc : va_W) (Z : Option Value → va_W → Prop) (Zx : String → va_W → Prop) (a1 : Int) (a2 : Int) (fs : List Value) (hfs : wc[0]? = some (x, .inr (9, fs))) (hM : uMet l yX9_ifHung wsX9_ifHung { frames := 8, cells := 1, slots := 6, locals := 130 } g τ [Value.ref x, Value.int (iI a1), Value.int (iI a2)] wc Z Zx) (hf : ∀ v w1, Z v w1 → w1.map Prod.fst = wc.map Prod.fst) (hfx : ∀ E w1, Zx E w1 → w1.map Prod.fst = wc.map Prod.fst) (hE : ∀ E w1, Zx E w1 → E = nIO) (hint : ∀ v w1, Z v w1 → ∃ z : Int32, v = some (.int z)) : qMet l yL_ifHung wsL_ifHung { frames := 9, cells := 1, slots := 6, locals := 152 } g τ [Value.ref x, Value.int (iI a1), Value.int (iI a2), Value.ref oa] ([outC oa z0 τ] ++ wc) (fun v w => LR Z oa τ v w ∨ LX Zx nIO 1 oa z0 τ v w) := by
  refine qMet_of (cc := cL_ifHung) (maxL := 5) (ret := some .int) (hh := [(0, 10, 13, 28)]) (lv := [(0, Value.ref x), (1, Value.int (iI a1)), (2, Value.int (iI a2)), (3, Value.ref oa)]) (by decide) rfl (Nat.le_of_ble_eq_true rfl) rfl ?_
  intro p e s m below meth c hx hb hr hml hts hown hlocks htab A H hP hD hS hK hZT hZU hZC ls hl
  refine lv_aload_n hx hb dL_ifHung_0 rfl (lv_at hl 3 rfl) ?_
  refine lv_iconst (v := iI 0) hx hb dL_ifHung_1 (by decide) ?_
  refine lv_aload_n hx hb dL_ifHung_2 rfl (lv_at hl 0 rfl) ?_
  refine lv_iload_n hx hb dL_ifHung_3 rfl (lv_at hl 1 rfl) ?_
  refine lv_iload_n hx hb dL_ifHung_4 rfl (lv_at hl 2 rfl) ?_
  refine ru_V (As := [Value.int (iI a1), Value.int (iI a2)]) (rest := [Value.int (iI 0), Value.ref oa]) (wr := [outC oa z0 τ]) ⟨hx, hb, hml, hown, hts⟩ hM gL_ifHung_X9_ifHung cd_X9_ifHung rfl rfl ⟨rfl, rfl⟩ ⟨Nat.le_of_ble_eq_true rfl, Nat.le_of_ble_eq_true rfl⟩ hK hZT hZU hP hD hS (List.perm_append_comm (l₁ := [outC oa z0 τ])) 0 hfs rfl rfl rfl hl rfl (Nat.le_of_ble_eq_true rfl) dL_ifHung_5 ⟨Nat.le_of_ble_eq_true rfl, Nat.le_of_ble_eq_true rfl⟩ hf hfx (fun E w1 H locs q9 ce9 hZ hP hD hS y1 y2 y3 => ?_) (fun v w1 H locs hZ hP hD hS => ?_)
  · have hP := hP.pm (List.perm_append_comm (l₂ := [outC oa z0 τ]))
    have hEr := hE _ _ hZ
    subst hEr
    · refine vx_catch (E := nIO) (name := nIO) hown (tableOf []) ⟨0, 10, 13, 28⟩ (tableOf []) htab (fun z hz => nomatch hz) rfl (by decide) (hts _ (List.mem_of_getElem? (i := 1) rfl) : (Cond.classLink RL 28 "java/lang/IndexOutOfBoundsException").before _ s = true) (hZT.2 _ (xB_c _ (by decide)) _) y1 y2 y3 ?_
      refine W.eq (g2 := F0 m 13 ls [Value.ref q9]) rfl ?_
      refine lv_astore (lv' := (4, Value.ref q9) :: [(0, Value.ref x), (1, Value.int (iI a1)), (2, Value.int (iI a2)), (3, Value.ref oa)]) hx hb dL_ifHung_13 hl (by decide) rfl (fun ls hl => ?_)
      refine lv_iconst (v := iI 1) hx hb dL_ifHung_15 (by decide) ?_
      exact q_iret hx hb hr hlocks hP hS ⟨Nat.le_of_ble_eq_true rfl, Nat.le_of_ble_eq_true rfl⟩ (Or.inr (⟨w1, hZ, rfl, rfl⟩)) dL_ifHung_16
  · have hP := hP.pm (List.perm_append_comm (l₂ := [outC oa z0 τ]))
    have hD := hD.pm (List.perm_append_comm (l₂ := [outC oa z0 τ]))
    obtain ⟨z, rfl⟩ := hint _ _ hZ
    refine tl_some ?_
    refine lv_i2l (v := z.toInt64) hx hb dL_ifHung_8 rfl ?_
    refine q_last hx hb hK hP hD hS dL_ifHung_9 (fun H locs hP hD hS => ?_)
    refine lv_goto (tgt := 17) hx hb dL_ifHung_10 (by decide) ?_
    refine lv_iconst (v := iI 0) hx hb dL_ifHung_17 (by decide) ?_
    exact q_iret hx hb hr hlocks hP hS ⟨Nat.le_of_ble_eq_true rfl, Nat.le_of_ble_eq_true rfl⟩ (Or.inl ⟨z, w1, hZ, rfl, rfl⟩) dL_ifHung_18

theorem cd_L_inYear : cd yL_inYear 3 := by decide +kernel
set_option maxRecDepth 100000 in
theorem c_L_inYear (l : Launch) (g : va_G) (τ : Nat → ClassId) (x oa : Nat) (z0 : Int64) (wc : va_W) (Z : Option Value → va_W → Prop) (Zx : String → va_W → Prop) (a1 : Int) (fs : List Value) (hfs : wc[0]? = some (x, .inr (9, fs))) (hM : uMet l yX9_inYear wsX9_inYear { frames := 7, cells := 1, slots := 6, locals := 110 } g τ [Value.ref x, Value.int (iI a1)] wc Z Zx) (hf : ∀ v w1, Z v w1 → w1.map Prod.fst = wc.map Prod.fst) (hfx : ∀ E w1, Zx E w1 → w1.map Prod.fst = wc.map Prod.fst) (hE : ∀ E w1, Zx E w1 → E = nIA) (hint : ∀ v w1, Z v w1 → ∃ z : Int32, v = some (.int z)) : qMet l yL_inYear wsL_inYear { frames := 8, cells := 1, slots := 6, locals := 131 } g τ [Value.ref x, Value.int (iI a1), Value.ref oa] ([outC oa z0 τ] ++ wc) (fun v w => LR Z oa τ v w ∨ LX Zx nIA 1 oa z0 τ v w) := by
  refine qMet_of (cc := cL_inYear) (maxL := 4) (ret := some .int) (hh := [(0, 9, 12, 13)]) (lv := [(0, Value.ref x), (1, Value.int (iI a1)), (2, Value.ref oa)]) (by decide) rfl (Nat.le_of_ble_eq_true rfl) rfl ?_
  intro p e s m below meth c hx hb hr hml hts hown hlocks htab A H hP hD hS hK hZT hZU hZC ls hl
  refine lv_aload_n hx hb dL_inYear_0 rfl (lv_at hl 2 rfl) ?_
  refine lv_iconst (v := iI 0) hx hb dL_inYear_1 (by decide) ?_
  refine lv_aload_n hx hb dL_inYear_2 rfl (lv_at hl 0 rfl) ?_
  refine lv_iload_n hx hb dL_inYear_3 rfl (lv_at hl 1 rfl) ?_
  refine ru_V (As := [Value.int (iI a1)]) (rest := [Value.int (iI 0), Value.ref oa]) (wr := [outC oa z0 τ]) ⟨hx, hb, hml, hown, hts⟩ hM gL_inYear_X9_inYear cd_X9_inYear rfl rfl ⟨rfl, rfl⟩ ⟨Nat.le_of_ble_eq_true rfl, Nat.le_of_ble_eq_true rfl⟩ hK hZT hZU hP hD hS (List.perm_append_comm (l₁ := [outC oa z0 τ])) 0 hfs rfl rfl rfl hl rfl (Nat.le_of_ble_eq_true rfl) dL_inYear_4 ⟨Nat.le_of_ble_eq_true rfl, Nat.le_of_ble_eq_true rfl⟩ hf hfx (fun E w1 H locs q9 ce9 hZ hP hD hS y1 y2 y3 => ?_) (fun v w1 H locs hZ hP hD hS => ?_)
  · have hP := hP.pm (List.perm_append_comm (l₂ := [outC oa z0 τ]))
    have hEr := hE _ _ hZ
    subst hEr
    · refine vx_catch (E := nIA) (name := nIA) hown (tableOf []) ⟨0, 9, 12, 13⟩ (tableOf []) htab (fun z hz => nomatch hz) rfl (by decide) (hts _ (List.mem_of_getElem? (i := 1) rfl) : (Cond.classLink RL 13 "java/lang/IllegalArgumentException").before _ s = true) (hZT.2 _ (xB_c _ (by decide)) _) y1 y2 y3 ?_
      refine W.eq (g2 := F0 m 12 ls [Value.ref q9]) rfl ?_
      refine lv_astore_n (lv' := (3, Value.ref q9) :: [(0, Value.ref x), (1, Value.int (iI a1)), (2, Value.ref oa)]) hx hb dL_inYear_12 rfl hl (by decide) rfl (fun ls hl => ?_)
      refine lv_iconst (v := iI 1) hx hb dL_inYear_13 (by decide) ?_
      exact q_iret hx hb hr hlocks hP hS ⟨Nat.le_of_ble_eq_true rfl, Nat.le_of_ble_eq_true rfl⟩ (Or.inr (⟨w1, hZ, rfl, rfl⟩)) dL_inYear_14
  · have hP := hP.pm (List.perm_append_comm (l₂ := [outC oa z0 τ]))
    have hD := hD.pm (List.perm_append_comm (l₂ := [outC oa z0 τ]))
    obtain ⟨z, rfl⟩ := hint _ _ hZ
    refine tl_some ?_
    refine lv_i2l (v := z.toInt64) hx hb dL_inYear_7 rfl ?_
    refine q_last hx hb hK hP hD hS dL_inYear_8 (fun H locs hP hD hS => ?_)
    refine lv_goto (tgt := 15) hx hb dL_inYear_9 (by decide) ?_
    refine lv_iconst (v := iI 0) hx hb dL_inYear_15 (by decide) ?_
    exact q_iret hx hb hr hlocks hP hS ⟨Nat.le_of_ble_eq_true rfl, Nat.le_of_ble_eq_true rfl⟩ (Or.inl ⟨z, w1, hZ, rfl, rfl⟩) dL_inYear_16

theorem cd_L_leastBubbles : cd yL_leastBubbles 4 := by decide +kernel
set_option maxRecDepth 100000 in
theorem c_L_leastBubbles (l : Launch) (g : va_G) (τ : Nat → ClassId) (x oa : Nat) (z0 : Int64) (wc : va_W) (Z : Option Value → va_W → Prop) (Zx : String → va_W → Prop) (a1 : Int) (a2 : Int) (fs : List Value) (hfs : wc[0]? = some (x, .inr (9, fs))) (hM : uMet l yX9_leastBubbles wsX9_leastBubbles { frames := 7, cells := 1, slots := 6, locals := 110 } g τ [Value.ref x, Value.int (iI a1), Value.int (iI a2)] wc Z Zx) (hf : ∀ v w1, Z v w1 → w1.map Prod.fst = wc.map Prod.fst) (hfx : ∀ E w1, Zx E w1 → w1.map Prod.fst = wc.map Prod.fst) (hE : ∀ E w1, Zx E w1 → E = nIA) (hint : ∀ v w1, Z v w1 → ∃ z : Int32, v = some (.int z)) : qMet l yL_leastBubbles wsL_leastBubbles { frames := 8, cells := 1, slots := 6, locals := 133 } g τ [Value.ref x, Value.int (iI a1), Value.int (iI a2), Value.ref oa] ([outC oa z0 τ] ++ wc) (fun v w => LR Z oa τ v w ∨ LX Zx nIA 1 oa z0 τ v w) := by
  refine qMet_of (cc := cL_leastBubbles) (maxL := 5) (ret := some .int) (hh := [(0, 10, 13, 13)]) (lv := [(0, Value.ref x), (1, Value.int (iI a1)), (2, Value.int (iI a2)), (3, Value.ref oa)]) (by decide) rfl (Nat.le_of_ble_eq_true rfl) rfl ?_
  intro p e s m below meth c hx hb hr hml hts hown hlocks htab A H hP hD hS hK hZT hZU hZC ls hl
  refine lv_aload_n hx hb dL_leastBubbles_0 rfl (lv_at hl 3 rfl) ?_
  refine lv_iconst (v := iI 0) hx hb dL_leastBubbles_1 (by decide) ?_
  refine lv_aload_n hx hb dL_leastBubbles_2 rfl (lv_at hl 0 rfl) ?_
  refine lv_iload_n hx hb dL_leastBubbles_3 rfl (lv_at hl 1 rfl) ?_
  refine lv_iload_n hx hb dL_leastBubbles_4 rfl (lv_at hl 2 rfl) ?_
  refine ru_V (As := [Value.int (iI a1), Value.int (iI a2)]) (rest := [Value.int (iI 0), Value.ref oa]) (wr := [outC oa z0 τ]) ⟨hx, hb, hml, hown, hts⟩ hM gL_leastBubbles_X9_leastBubbles cd_X9_leastBubbles rfl rfl ⟨rfl, rfl⟩ ⟨Nat.le_of_ble_eq_true rfl, Nat.le_of_ble_eq_true rfl⟩ hK hZT hZU hP hD hS (List.perm_append_comm (l₁ := [outC oa z0 τ])) 0 hfs rfl rfl rfl hl rfl (Nat.le_of_ble_eq_true rfl) dL_leastBubbles_5 ⟨Nat.le_of_ble_eq_true rfl, Nat.le_of_ble_eq_true rfl⟩ hf hfx (fun E w1 H locs q9 ce9 hZ hP hD hS y1 y2 y3 => ?_) (fun v w1 H locs hZ hP hD hS => ?_)
  · have hP := hP.pm (List.perm_append_comm (l₂ := [outC oa z0 τ]))
    have hEr := hE _ _ hZ
    subst hEr
    · refine vx_catch (E := nIA) (name := nIA) hown (tableOf []) ⟨0, 10, 13, 13⟩ (tableOf []) htab (fun z hz => nomatch hz) rfl (by decide) (hts _ (List.mem_of_getElem? (i := 1) rfl) : (Cond.classLink RL 13 "java/lang/IllegalArgumentException").before _ s = true) (hZT.2 _ (xB_c _ (by decide)) _) y1 y2 y3 ?_
      refine W.eq (g2 := F0 m 13 ls [Value.ref q9]) rfl ?_
      refine lv_astore (lv' := (4, Value.ref q9) :: [(0, Value.ref x), (1, Value.int (iI a1)), (2, Value.int (iI a2)), (3, Value.ref oa)]) hx hb dL_leastBubbles_13 hl (by decide) rfl (fun ls hl => ?_)
      refine lv_iconst (v := iI 1) hx hb dL_leastBubbles_15 (by decide) ?_
      exact q_iret hx hb hr hlocks hP hS ⟨Nat.le_of_ble_eq_true rfl, Nat.le_of_ble_eq_true rfl⟩ (Or.inr (⟨w1, hZ, rfl, rfl⟩)) dL_leastBubbles_16
  · have hP := hP.pm (List.perm_append_comm (l₂ := [outC oa z0 τ]))
    have hD := hD.pm (List.perm_append_comm (l₂ := [outC oa z0 τ]))
    obtain ⟨z, rfl⟩ := hint _ _ hZ
    refine tl_some ?_
    refine lv_i2l (v := z.toInt64) hx hb dL_leastBubbles_8 rfl ?_
    refine q_last hx hb hK hP hD hS dL_leastBubbles_9 (fun H locs hP hD hS => ?_)
    refine lv_goto (tgt := 17) hx hb dL_leastBubbles_10 (by decide) ?_
    refine lv_iconst (v := iI 0) hx hb dL_leastBubbles_17 (by decide) ?_
    exact q_iret hx hb hr hlocks hP hS ⟨Nat.le_of_ble_eq_true rfl, Nat.le_of_ble_eq_true rfl⟩ (Or.inl ⟨z, w1, hZ, rfl, rfl⟩) dL_leastBubbles_18

theorem cd_L_runScript : cd yL_runScript 4 := by decide +kernel
set_option maxRecDepth 100000 in
theorem c_L_runScript (l : Launch) (g : va_G) (τ : Nat → ClassId) (x oa : Nat) (z0 : Int64) (wc : va_W) (Z : Option Value → va_W → Prop) (Zx : String → va_W → Prop) (a1 : Int) (b2 : Int64) (fs : List Value) (hfs : wc[0]? = some (x, .inr (9, fs))) (hM : uMet l yX9_runScript wsX9_runScript { frames := 7, cells := 1, slots := 6, locals := 153 } g τ [Value.ref x, Value.int (iI a1), Value.long b2] wc Z Zx) (hf : ∀ v w1, Z v w1 → w1.map Prod.fst = wc.map Prod.fst) (hfx : ∀ E w1, Zx E w1 → w1.map Prod.fst = wc.map Prod.fst) (hE : ∀ E w1, Zx E w1 → E = nIA) (hint : ∀ v w1, Z v w1 → ∃ z : Int32, v = some (.int z)) : qMet l yL_runScript wsL_runScript { frames := 8, cells := 1, slots := 6, locals := 179 } g τ [Value.ref x, Value.int (iI a1), Value.long b2, Value.ref oa] ([outC oa z0 τ] ++ wc) (fun v w => LR Z oa τ v w ∨ LX Zx nIA 1 oa z0 τ v w) := by
  refine qMet_of (cc := cL_runScript) (maxL := 6) (ret := some .int) (hh := [(0, 11, 14, 13)]) (lv := [(0, Value.ref x), (1, Value.int (iI a1)), (2, Value.long b2), (4, Value.ref oa)]) (by decide) rfl (Nat.le_of_ble_eq_true rfl) rfl ?_
  intro p e s m below meth c hx hb hr hml hts hown hlocks htab A H hP hD hS hK hZT hZU hZC ls hl
  refine lv_aload hx hb dL_runScript_0 (lv_at hl 3 rfl) ?_
  refine lv_iconst (v := iI 0) hx hb dL_runScript_2 (by decide) ?_
  refine lv_aload_n hx hb dL_runScript_3 rfl (lv_at hl 0 rfl) ?_
  refine lv_iload_n hx hb dL_runScript_4 rfl (lv_at hl 1 rfl) ?_
  refine lv_lload_n hx hb dL_runScript_5 rfl (lv_at hl 2 rfl) ?_
  refine ru_V (As := [Value.int (iI a1), Value.long b2]) (rest := [Value.int (iI 0), Value.ref oa]) (wr := [outC oa z0 τ]) ⟨hx, hb, hml, hown, hts⟩ hM gL_runScript_X9_runScript cd_X9_runScript rfl rfl ⟨rfl, rfl⟩ ⟨Nat.le_of_ble_eq_true rfl, Nat.le_of_ble_eq_true rfl⟩ hK hZT hZU hP hD hS (List.perm_append_comm (l₁ := [outC oa z0 τ])) 0 hfs rfl rfl rfl hl rfl (Nat.le_of_ble_eq_true rfl) dL_runScript_6 ⟨Nat.le_of_ble_eq_true rfl, Nat.le_of_ble_eq_true rfl⟩ hf hfx (fun E w1 H locs q9 ce9 hZ hP hD hS y1 y2 y3 => ?_) (fun v w1 H locs hZ hP hD hS => ?_)
  · have hP := hP.pm (List.perm_append_comm (l₂ := [outC oa z0 τ]))
    have hEr := hE _ _ hZ
    subst hEr
    · refine vx_catch (E := nIA) (name := nIA) hown (tableOf []) ⟨0, 11, 14, 13⟩ (tableOf []) htab (fun z hz => nomatch hz) rfl (by decide) (hts _ (List.mem_of_getElem? (i := 1) rfl) : (Cond.classLink RL 13 "java/lang/IllegalArgumentException").before _ s = true) (hZT.2 _ (xB_c _ (by decide)) _) y1 y2 y3 ?_
      refine W.eq (g2 := F0 m 14 ls [Value.ref q9]) rfl ?_
      refine lv_astore (lv' := (5, Value.ref q9) :: [(0, Value.ref x), (1, Value.int (iI a1)), (2, Value.long b2), (4, Value.ref oa)]) hx hb dL_runScript_14 hl (by decide) rfl (fun ls hl => ?_)
      refine lv_iconst (v := iI 1) hx hb dL_runScript_16 (by decide) ?_
      exact q_iret hx hb hr hlocks hP hS ⟨Nat.le_of_ble_eq_true rfl, Nat.le_of_ble_eq_true rfl⟩ (Or.inr (⟨w1, hZ, rfl, rfl⟩)) dL_runScript_17
  · have hP := hP.pm (List.perm_append_comm (l₂ := [outC oa z0 τ]))
    have hD := hD.pm (List.perm_append_comm (l₂ := [outC oa z0 τ]))
    obtain ⟨z, rfl⟩ := hint _ _ hZ
    refine tl_some ?_
    refine lv_i2l (v := z.toInt64) hx hb dL_runScript_9 rfl ?_
    refine q_last hx hb hK hP hD hS dL_runScript_10 (fun H locs hP hD hS => ?_)
    refine lv_goto (tgt := 18) hx hb dL_runScript_11 (by decide) ?_
    refine lv_iconst (v := iI 0) hx hb dL_runScript_18 (by decide) ?_
    exact q_iret hx hb hr hlocks hP hS ⟨Nat.le_of_ble_eq_true rfl, Nat.le_of_ble_eq_true rfl⟩ (Or.inl ⟨z, w1, hZ, rfl, rfl⟩) dL_runScript_19

theorem cd_L_simulate : cd yL_simulate 4 := by decide +kernel
set_option maxRecDepth 100000 in
theorem c_L_simulate (l : Launch) (g : va_G) (τ : Nat → ClassId) (x oa : Nat) (z0 : Int64) (wc : va_W) (Z : Option Value → va_W → Prop) (Zx : String → va_W → Prop) (b1 : Int64) (a2 : Int) (fs : List Value) (hfs : wc[0]? = some (x, .inr (9, fs))) (hM : uMet l yX9_simulate wsX9_simulate { frames := 7, cells := 1, slots := 6, locals := 151 } g τ [Value.ref x, Value.long b1, Value.int (iI a2)] wc Z Zx) (hf : ∀ v w1, Z v w1 → w1.map Prod.fst = wc.map Prod.fst) (hfx : ∀ E w1, Zx E w1 → w1.map Prod.fst = wc.map Prod.fst) (hE : ∀ E w1, Zx E w1 → E = nIA) (hint : ∀ v w1, Z v w1 → ∃ z : Int32, v = some (.int z)) : qMet l yL_simulate wsL_simulate { frames := 8, cells := 1, slots := 6, locals := 178 } g τ [Value.ref x, Value.long b1, Value.int (iI a2), Value.ref oa] ([outC oa z0 τ] ++ wc) (fun v w => LR Z oa τ v w ∨ LX Zx nIA 1 oa z0 τ v w) := by
  refine qMet_of (cc := cL_simulate) (maxL := 6) (ret := some .int) (hh := [(0, 11, 14, 13)]) (lv := [(0, Value.ref x), (1, Value.long b1), (3, Value.int (iI a2)), (4, Value.ref oa)]) (by decide) rfl (Nat.le_of_ble_eq_true rfl) rfl ?_
  intro p e s m below meth c hx hb hr hml hts hown hlocks htab A H hP hD hS hK hZT hZU hZC ls hl
  refine lv_aload hx hb dL_simulate_0 (lv_at hl 3 rfl) ?_
  refine lv_iconst (v := iI 0) hx hb dL_simulate_2 (by decide) ?_
  refine lv_aload_n hx hb dL_simulate_3 rfl (lv_at hl 0 rfl) ?_
  refine lv_lload_n hx hb dL_simulate_4 rfl (lv_at hl 1 rfl) ?_
  refine lv_iload_n hx hb dL_simulate_5 rfl (lv_at hl 2 rfl) ?_
  refine ru_V (As := [Value.long b1, Value.int (iI a2)]) (rest := [Value.int (iI 0), Value.ref oa]) (wr := [outC oa z0 τ]) ⟨hx, hb, hml, hown, hts⟩ hM gL_simulate_X9_simulate cd_X9_simulate rfl rfl ⟨rfl, rfl⟩ ⟨Nat.le_of_ble_eq_true rfl, Nat.le_of_ble_eq_true rfl⟩ hK hZT hZU hP hD hS (List.perm_append_comm (l₁ := [outC oa z0 τ])) 0 hfs rfl rfl rfl hl rfl (Nat.le_of_ble_eq_true rfl) dL_simulate_6 ⟨Nat.le_of_ble_eq_true rfl, Nat.le_of_ble_eq_true rfl⟩ hf hfx (fun E w1 H locs q9 ce9 hZ hP hD hS y1 y2 y3 => ?_) (fun v w1 H locs hZ hP hD hS => ?_)
  · have hP := hP.pm (List.perm_append_comm (l₂ := [outC oa z0 τ]))
    have hEr := hE _ _ hZ
    subst hEr
    · refine vx_catch (E := nIA) (name := nIA) hown (tableOf []) ⟨0, 11, 14, 13⟩ (tableOf []) htab (fun z hz => nomatch hz) rfl (by decide) (hts _ (List.mem_of_getElem? (i := 1) rfl) : (Cond.classLink RL 13 "java/lang/IllegalArgumentException").before _ s = true) (hZT.2 _ (xB_c _ (by decide)) _) y1 y2 y3 ?_
      refine W.eq (g2 := F0 m 14 ls [Value.ref q9]) rfl ?_
      refine lv_astore (lv' := (5, Value.ref q9) :: [(0, Value.ref x), (1, Value.long b1), (3, Value.int (iI a2)), (4, Value.ref oa)]) hx hb dL_simulate_14 hl (by decide) rfl (fun ls hl => ?_)
      refine lv_iconst (v := iI 1) hx hb dL_simulate_16 (by decide) ?_
      exact q_iret hx hb hr hlocks hP hS ⟨Nat.le_of_ble_eq_true rfl, Nat.le_of_ble_eq_true rfl⟩ (Or.inr (⟨w1, hZ, rfl, rfl⟩)) dL_simulate_17
  · have hP := hP.pm (List.perm_append_comm (l₂ := [outC oa z0 τ]))
    have hD := hD.pm (List.perm_append_comm (l₂ := [outC oa z0 τ]))
    obtain ⟨z, rfl⟩ := hint _ _ hZ
    refine tl_some ?_
    refine lv_i2l (v := z.toInt64) hx hb dL_simulate_9 rfl ?_
    refine q_last hx hb hK hP hD hS dL_simulate_10 (fun H locs hP hD hS => ?_)
    refine lv_goto (tgt := 18) hx hb dL_simulate_11 (by decide) ?_
    refine lv_iconst (v := iI 0) hx hb dL_simulate_18 (by decide) ?_
    exact q_iret hx hb hr hlocks hP hS ⟨Nat.le_of_ble_eq_true rfl, Nat.le_of_ble_eq_true rfl⟩ (Or.inl ⟨z, w1, hZ, rfl, rfl⟩) dL_simulate_19

theorem cd_L_save : cd yL_save 3 := by decide +kernel
set_option maxRecDepth 100000 in
theorem c_L_save (l : Launch) (g : va_G) (τ : Nat → ClassId) (x oa : Nat) (z0 : Int64) (wc : va_W) (Z : Option Value → va_W → Prop) (Zx : String → va_W → Prop) (a1 : Int) (fs : List Value) (hfs : wc[0]? = some (x, .inr (9, fs))) (hM : uMet l yX9_save wsX9_save { frames := 7, cells := 1, slots := 6, locals := 110 } g τ [Value.ref x, Value.int (iI a1)] wc Z Zx) (hf : ∀ v w1, Z v w1 → w1.map Prod.fst = wc.map Prod.fst) (hfx : ∀ E w1, Zx E w1 → w1.map Prod.fst = wc.map Prod.fst) (hE : ∀ E w1, Zx E w1 → E = nIO) (hint : ∀ v w1, Z v w1 → ∃ z : Int32, v = some (.int z)) : qMet l yL_save wsL_save { frames := 8, cells := 1, slots := 6, locals := 131 } g τ [Value.ref x, Value.int (iI a1), Value.ref oa] ([outC oa z0 τ] ++ wc) (fun v w => LR Z oa τ v w ∨ LX Zx nIO 1 oa z0 τ v w) := by
  refine qMet_of (cc := cL_save) (maxL := 4) (ret := some .int) (hh := [(0, 9, 12, 28)]) (lv := [(0, Value.ref x), (1, Value.int (iI a1)), (2, Value.ref oa)]) (by decide) rfl (Nat.le_of_ble_eq_true rfl) rfl ?_
  intro p e s m below meth c hx hb hr hml hts hown hlocks htab A H hP hD hS hK hZT hZU hZC ls hl
  refine lv_aload_n hx hb dL_save_0 rfl (lv_at hl 2 rfl) ?_
  refine lv_iconst (v := iI 0) hx hb dL_save_1 (by decide) ?_
  refine lv_aload_n hx hb dL_save_2 rfl (lv_at hl 0 rfl) ?_
  refine lv_iload_n hx hb dL_save_3 rfl (lv_at hl 1 rfl) ?_
  refine ru_V (As := [Value.int (iI a1)]) (rest := [Value.int (iI 0), Value.ref oa]) (wr := [outC oa z0 τ]) ⟨hx, hb, hml, hown, hts⟩ hM gL_save_X9_save cd_X9_save rfl rfl ⟨rfl, rfl⟩ ⟨Nat.le_of_ble_eq_true rfl, Nat.le_of_ble_eq_true rfl⟩ hK hZT hZU hP hD hS (List.perm_append_comm (l₁ := [outC oa z0 τ])) 0 hfs rfl rfl rfl hl rfl (Nat.le_of_ble_eq_true rfl) dL_save_4 ⟨Nat.le_of_ble_eq_true rfl, Nat.le_of_ble_eq_true rfl⟩ hf hfx (fun E w1 H locs q9 ce9 hZ hP hD hS y1 y2 y3 => ?_) (fun v w1 H locs hZ hP hD hS => ?_)
  · have hP := hP.pm (List.perm_append_comm (l₂ := [outC oa z0 τ]))
    have hEr := hE _ _ hZ
    subst hEr
    · refine vx_catch (E := nIO) (name := nIO) hown (tableOf []) ⟨0, 9, 12, 28⟩ (tableOf []) htab (fun z hz => nomatch hz) rfl (by decide) (hts _ (List.mem_of_getElem? (i := 1) rfl) : (Cond.classLink RL 28 "java/lang/IndexOutOfBoundsException").before _ s = true) (hZT.2 _ (xB_c _ (by decide)) _) y1 y2 y3 ?_
      refine W.eq (g2 := F0 m 12 ls [Value.ref q9]) rfl ?_
      refine lv_astore_n (lv' := (3, Value.ref q9) :: [(0, Value.ref x), (1, Value.int (iI a1)), (2, Value.ref oa)]) hx hb dL_save_12 rfl hl (by decide) rfl (fun ls hl => ?_)
      refine lv_iconst (v := iI 1) hx hb dL_save_13 (by decide) ?_
      exact q_iret hx hb hr hlocks hP hS ⟨Nat.le_of_ble_eq_true rfl, Nat.le_of_ble_eq_true rfl⟩ (Or.inr (⟨w1, hZ, rfl, rfl⟩)) dL_save_14
  · have hP := hP.pm (List.perm_append_comm (l₂ := [outC oa z0 τ]))
    have hD := hD.pm (List.perm_append_comm (l₂ := [outC oa z0 τ]))
    obtain ⟨z, rfl⟩ := hint _ _ hZ
    refine tl_some ?_
    refine lv_i2l (v := z.toInt64) hx hb dL_save_7 rfl ?_
    refine q_last hx hb hK hP hD hS dL_save_8 (fun H locs hP hD hS => ?_)
    refine lv_goto (tgt := 15) hx hb dL_save_9 (by decide) ?_
    refine lv_iconst (v := iI 0) hx hb dL_save_15 (by decide) ?_
    exact q_iret hx hb hr hlocks hP hS ⟨Nat.le_of_ble_eq_true rfl, Nat.le_of_ble_eq_true rfl⟩ (Or.inl ⟨z, w1, hZ, rfl, rfl⟩) dL_save_16

theorem cd_L_restore : cd yL_restore 3 := by decide +kernel
set_option maxRecDepth 100000 in
theorem c_L_restore (l : Launch) (g : va_G) (τ : Nat → ClassId) (x oa : Nat) (z0 : Int64) (wc : va_W) (Z : Option Value → va_W → Prop) (Zx : String → va_W → Prop) (a1 : Int) (fs : List Value) (hfs : wc[0]? = some (x, .inr (9, fs))) (hM : uMet l yX9_restore wsX9_restore { frames := 7, cells := 1, slots := 6, locals := 110 } g τ [Value.ref x, Value.int (iI a1)] wc Z Zx) (hf : ∀ v w1, Z v w1 → w1.map Prod.fst = wc.map Prod.fst) (hfx : ∀ E w1, Zx E w1 → w1.map Prod.fst = wc.map Prod.fst) (hE : ∀ E w1, Zx E w1 → E = nIO ∨ E = nIS) (hint : ∀ v w1, Z v w1 → ∃ z : Int32, v = some (.int z)) : qMet l yL_restore wsL_restore { frames := 8, cells := 1, slots := 6, locals := 131 } g τ [Value.ref x, Value.int (iI a1), Value.ref oa] ([outC oa z0 τ] ++ wc) (fun v w => LR Z oa τ v w ∨ LX Zx nIO 1 oa z0 τ v w ∨ LX Zx nIS 2 oa z0 τ v w) := by
  refine qMet_of (cc := cL_restore) (maxL := 4) (ret := some .int) (hh := [(0, 9, 12, 28), (0, 9, 15, 15)]) (lv := [(0, Value.ref x), (1, Value.int (iI a1)), (2, Value.ref oa)]) (by decide) rfl (Nat.le_of_ble_eq_true rfl) rfl ?_
  intro p e s m below meth c hx hb hr hml hts hown hlocks htab A H hP hD hS hK hZT hZU hZC ls hl
  refine lv_aload_n hx hb dL_restore_0 rfl (lv_at hl 2 rfl) ?_
  refine lv_iconst (v := iI 0) hx hb dL_restore_1 (by decide) ?_
  refine lv_aload_n hx hb dL_restore_2 rfl (lv_at hl 0 rfl) ?_
  refine lv_iload_n hx hb dL_restore_3 rfl (lv_at hl 1 rfl) ?_
  refine ru_V (As := [Value.int (iI a1)]) (rest := [Value.int (iI 0), Value.ref oa]) (wr := [outC oa z0 τ]) ⟨hx, hb, hml, hown, hts⟩ hM gL_restore_X9_restore cd_X9_restore rfl rfl ⟨rfl, rfl⟩ ⟨Nat.le_of_ble_eq_true rfl, Nat.le_of_ble_eq_true rfl⟩ hK hZT hZU hP hD hS (List.perm_append_comm (l₁ := [outC oa z0 τ])) 0 hfs rfl rfl rfl hl rfl (Nat.le_of_ble_eq_true rfl) dL_restore_4 ⟨Nat.le_of_ble_eq_true rfl, Nat.le_of_ble_eq_true rfl⟩ hf hfx (fun E w1 H locs q9 ce9 hZ hP hD hS y1 y2 y3 => ?_) (fun v w1 H locs hZ hP hD hS => ?_)
  · have hP := hP.pm (List.perm_append_comm (l₂ := [outC oa z0 τ]))
    rcases hE _ _ hZ with rfl | rfl
    · refine vx_catch (E := nIO) (name := nIO) hown (tableOf []) ⟨0, 9, 12, 28⟩ (tableOf [(0, 9, 15, 15)]) htab (fun z hz => nomatch hz) rfl (by decide) (hts _ (List.mem_of_getElem? (i := 1) rfl) : (Cond.classLink RL 28 "java/lang/IndexOutOfBoundsException").before _ s = true) (hZT.2 _ (xB_c _ (by decide)) _) y1 y2 y3 ?_
      refine W.eq (g2 := F0 m 12 ls [Value.ref q9]) rfl ?_
      refine lv_astore_n (lv' := (3, Value.ref q9) :: [(0, Value.ref x), (1, Value.int (iI a1)), (2, Value.ref oa)]) hx hb dL_restore_12 rfl hl (by decide) rfl (fun ls hl => ?_)
      refine lv_iconst (v := iI 1) hx hb dL_restore_13 (by decide) ?_
      exact q_iret hx hb hr hlocks hP hS ⟨Nat.le_of_ble_eq_true rfl, Nat.le_of_ble_eq_true rfl⟩ (Or.inr (Or.inl ⟨w1, hZ, rfl, rfl⟩)) dL_restore_14
    · refine vx_catch (E := nIS) (name := nIS) hown (tableOf [(0, 9, 12, 28)]) ⟨0, 9, 15, 15⟩ (tableOf []) htab (fun z hz => by
        rcases List.mem_cons.mp hz with rfl | hz
        · exact Or.inr ⟨by decide, nIO, (hts _ (List.mem_of_getElem? (i := 1) rfl) : (Cond.classLink RL 28 "java/lang/IndexOutOfBoundsException").before _ s = true), hZC _ (by decide : (nIS, nIO) ∈ ncL)⟩
        cases hz) rfl (by decide) (hts _ (List.mem_of_getElem? (i := 2) rfl) : (Cond.classLink RL 15 "java/lang/IllegalStateException").before _ s = true) (hZT.2 _ (xB_c _ (by decide)) _) y1 y2 y3 ?_
      refine W.eq (g2 := F0 m 15 ls [Value.ref q9]) rfl ?_
      refine lv_astore_n (lv' := (3, Value.ref q9) :: [(0, Value.ref x), (1, Value.int (iI a1)), (2, Value.ref oa)]) hx hb dL_restore_15 rfl hl (by decide) rfl (fun ls hl => ?_)
      refine lv_iconst (v := iI 2) hx hb dL_restore_16 (by decide) ?_
      exact q_iret hx hb hr hlocks hP hS ⟨Nat.le_of_ble_eq_true rfl, Nat.le_of_ble_eq_true rfl⟩ (Or.inr (Or.inr (⟨w1, hZ, rfl, rfl⟩))) dL_restore_17
  · have hP := hP.pm (List.perm_append_comm (l₂ := [outC oa z0 τ]))
    have hD := hD.pm (List.perm_append_comm (l₂ := [outC oa z0 τ]))
    obtain ⟨z, rfl⟩ := hint _ _ hZ
    refine tl_some ?_
    refine lv_i2l (v := z.toInt64) hx hb dL_restore_7 rfl ?_
    refine q_last hx hb hK hP hD hS dL_restore_8 (fun H locs hP hD hS => ?_)
    refine lv_goto (tgt := 18) hx hb dL_restore_9 (by decide) ?_
    refine lv_iconst (v := iI 0) hx hb dL_restore_18 (by decide) ?_
    exact q_iret hx hb hr hlocks hP hS ⟨Nat.le_of_ble_eq_true rfl, Nat.le_of_ble_eq_true rfl⟩ (Or.inl ⟨z, w1, hZ, rfl, rfl⟩) dL_restore_19
