/-! methods of the class that throw -/
abbrev xN : List String := ["java/lang/RuntimeException", "java/lang/Exception"]
def xWs : List Cond := vx_atS RX9 369 "java/lang/IndexOutOfBoundsException" xN ++ (vx_atS RX9 376 "java/lang/IllegalArgumentException" xN ++ vx_atS RX9 381 "java/lang/IllegalStateException" xN)
def xBad : List Cond := xWs.filter (fun w => !goodWord w)
theorem xBad_ok : xBad.all (fun w => w.onTables && w.keepsFace) = true := by decide +kernel
theorem xWs_ot : xWs.all vx_ot = true := by decide +kernel
/-- the texts of the throws, the words of the tables that a throw needs and that aren't good ones -/
def ZT (U : State) : Prop := ((∃ a, vk_R RX9 367 "there is no such thing" a U) ∧ (∃ a, vk_R RX9 374 "an argument is out of its range" a U) ∧ ∃ a, vk_R RX9 379 "this can't be done now" a U) ∧ ∀ w ∈ xBad, ∀ a, w.before a U = true
def ZU (A : Nat → Prop) (U : State) (H : Heap) : Prop := vx_Zq Bundle.tN "UNASSIGNED_STACK" Bundle.steD A U H ∧ vx_Zq Bundle.tN "SUPPRESSED_SENTINEL" Bundle.listD A U H
theorem ZT.warm {s U : State} (hW : s.WarmedH U.vm) (h : ZT s) : ZT U := by
  obtain ⟨⟨⟨a1, h1⟩, ⟨a2, h2⟩, ⟨a3, h3⟩⟩, h4⟩ := h
  refine ⟨⟨⟨a1, vk_R.warm hW h1⟩, ⟨a2, vk_R.warm hW h2⟩, ⟨a3, vk_R.warm hW h3⟩⟩, fun w hw a => ?_⟩
  have h := List.all_eq_true.mp xBad_ok w hw
  rw [Bool.and_eq_true] at h
  show w.before a (U.setVm U.vm) = true
  rw [Cond.onTables_vm (A' := #[]) (U' := s) U.vm w h.1]
  exact Cond.before_shiftedFace (State.Shifted.of_warmed hW) w h.2 (h4 w hw #[])
theorem ZT.calling {U : State} {f : JFrame} {mk : MethodId} {a : Array Value} (h : ZT U) : ZT (U.calling f mk a) := ZT.warm (s := U) (U := U.calling f mk a) (State.WarmedH.refl U) h
theorem ZU.moved {A : Nat → Prop} {u U : State} {H : Heap} (hvm : u.vm.Alike U.vm) (h : ZU A u H) : ZU A U H := ⟨vx_Zq.moved hvm h.1, vx_Zq.moved hvm h.2⟩
theorem ZU.kept {A : Nat → Prop} {U : State} {H H1 : Heap} (h : ZU A U H) (hq : ∀ a : Nat, a < H.size → ¬ A a → H1[a]? = H[a]?) : ZU A U H1 := ⟨vx_Zq.kept h.1 hq, vx_Zq.kept h.2 hq⟩
theorem ZU.narrow {A B : Nat → Prop} {U : State} {H : Heap} (h : ZU A U H) (hAB : ∀ q, B q → A q) : ZU B U H := ⟨vx_Zq.narrow h.1 hAB, vx_Zq.narrow h.2 hAB⟩
def xW (g : va_G) (τ : Nat → ClassId) (wc : va_W) : State → Prop := fun U => (va_P g vwCl wc U.heap ∧ va_D (fun _ => True) wc ∧ KK g τ U) ∧ ZT U ∧ ZU (inW wc) U U.heap
theorem xW_blind {g : va_G} {τ : Nat → ClassId} {wc : va_W} {av : List Value} : FrameBlind (va_Pc av (xW g τ wc)) := fun _ _ _ _ h => ⟨h.1, ⟨h.2.1.1, h.2.1.2.1, h.2.1.2.2.calling⟩, h.2.2.1.calling, ZU.moved (Vm.Alike.refl _) h.2.2.2⟩
def xX (g : va_G) (E : String) (Zx : va_W → Prop) (A : Nat → Prop) : String → State → State → Prop := fun E1 st t => E1 = E ∧ ∃ w1, Zx w1 ∧ va_P g vwCl w1 t.heap ∧ va_F A st t
def xNo : Array Value → State → Outcome → State → Prop := fun _ _ _ _ => False
/-- a method that throws E, from a world like this -/
def xMet (l : Launch) (y : MethodName) (ws : List Cond) (rm : Room) (g : va_G) (τ : Nat → ClassId) (av : List Value) (wc : va_W) (E : String) (Zx : va_W → Prop) : Prop := vx_Met l y ws rm (va_Pc av (xW g τ wc)) xNo (xX g E Zx (inW wc)) 1 6 (inW wc)
theorem xMet_of {l : Launch} {y : MethodName} {ws ws' : List Cond} {rm : Room} {cc : ByteArray} {maxL : Nat} {ret : Option FieldType} {g : va_G} {τ : Nat → ClassId} {wc : va_W} {av : List Value} {lv : List (Nat × Value)} {E : String} {Zx : va_W → Prop} (hy : plainName y.cls = true) (hw : ws = Cond.code y cc maxL ret :: ws') (hn : (lg_sl av).length ≤ maxL) (hlv : lv_args 0 av = lv)
    (body : ∀ (p : Program) (e : Env) (s : State) (m : MethodId) (below : List Frame) (meth : Method) (c : Code), p.tables.exec = Jvm.exec → c.code = cc → meth.sig.returnType = ret → c.maxLocals = maxL → (∀ w ∈ ws, w.before av.toArray s = true) → s.vm.findClass y.cls = some m.cls → meth.locks = false → (∀ x ∈ c.exceptionTable.toList, False) → ∀ (A : Nat → Prop) (H : Heap), va_P g vwCl wc H → va_D A wc → va_S A s.heap H [] → KK g τ s → ZT s → ZU A s s.heap → ∀ ls : Array Slot, lv_has ls maxL lv →
      W p l e rm s m av.toArray below meth c H [] 0 0 (vx_MQ below xNo (xX g E Zx A) av.toArray s 1 6 A) (F0 m 0 ls [])) : xMet l y ws rm g τ av wc E Zx := by
  refine vx_ofW (cc := cc) (maxL := maxL) (ret := ret) hy hw ?_
  intro p e s m args below meth c s₁ B hml ht hv
  obtain ⟨rfl, ⟨hP, hD, hK⟩, hZ, hU⟩ := hv
  rw [lg_entry_eq]
  have hl := lv_entry av (n := maxL) hn
  rw [hlv] at hl
  exact body p e s m below meth c B.exec B.bytes B.returns hml (atoms_spec (ws := ws) B.pre) (findClass_of_methodNamed B.named) B.notSynchronized ht _ _ hP ⟨hD.1, fun k q hk => ⟨k, q.2, hk⟩⟩ va_S.rf hK hZ hU _ hl
section XR
variable {p : Program} {l : Launch} {e : Env} {R : Room} {s : State} {m : MethodId} {args : Array Value} {below : List Frame} {meth : Method} {c : Code} {H H0 : Heap} {locs : List Loc} {cells slots : Nat} {Q : State → Prop}
variable {y : MethodName} {bytes cc : ByteArray} {maxL nL n index pc : Nat} {ret : Option FieldType} {wsy wsy' : List Cond} {rm : Room} {Ts : List Cond} {own C : String} {b : Addr} {As rest : List Value} {ls : Array Slot} {g : va_G} {τ : Nat → ClassId} {ws wc w1 wo : va_W} {lv : List (Nat × Value)} {A A0 : Nat → Prop} {E : String} {Zx Zy : va_W → Prop} {a : Array Value}
/-- a callee throws, and it isn't caught here -/
theorem xr_go {st0 : List Value} (hr : vx_Run p l e R s m args below meth c H locs cells slots 1 6 (F0 m pc ls st0) rest (xNo a) (xX g E Zx A) A) (hS : va_S A0 H0 H locs) (hA : ∀ q, A q → A0 q)
    (kk : ∀ (w1 : va_W) (H1 : Heap) (locs1 : List Loc) (q : Addr) (ce : Cell), Zx w1 → va_P g vwCl w1 H1 → H.size ≤ H1.size → (∀ q : Nat, q < H.size → ¬ A q → H1[q]? = H[q]?) → va_S A0 H0 H1 locs1 → H1[q]? = some ce → ce.vm = .none → s.vm.findClass E = some ce.cls → vx_W p l e R s m args below meth c H1 locs1 (cells + 1) (slots + 6) Q (F0 m pc ls rest) q) : W p l e R s m args below meth c H locs cells slots Q (F0 m pc ls st0) := by
  intro T hT X
  rcases hr T hT X with ⟨_, _, _, _, _, _, _, _, _, _, h, _⟩ | ⟨q, st₀, t, T', L, E1, ce, h0, X', hL, e1, e2, ⟨rfl, w1, hZ, hP, hF⟩, hce, hv, hcl, st⟩
  · exact h.elim
  · obtain ⟨hz, hk⟩ := hF
    rw [h0] at hz hk
    obtain ⟨t2, a1, b1⟩ := kk w1 T'.heap (locs ++ L) q ce hZ (by rw [e1]; exact hP) (by rw [e1]; exact hz) (fun q h1 h2 => by rw [e1]; exact hk q h1 h2)
      ⟨Nat.le_trans hS.1 (by rw [e1]; exact hz), fun q h1 h2 => by rw [e1, hk q (Nat.lt_of_lt_of_le h1 hS.1) (fun z => h2 (hA q z))]; exact hS.2.1 q h1 h2, fun q hq => by
        rcases List.mem_append.mp hq with h | h
        · exact hS.2.2 q h
        · exact hA _ (hL q h)⟩ (by rw [e1]; exact hce) hv hcl T' rfl X'
    exact ⟨t2, st.trans a1, b1⟩
theorem xr_out {q : Addr} {ce : Cell} (ht : ∀ x ∈ c.exceptionTable.toList, False) (hlocks : meth.locks = false) (hcell : H[q]? = some ce) (hv : ce.vm = .none) (hcl : s.vm.findClass E = some ce.cls) (hP : va_P g vwCl ws H) (hS : va_S A s.heap H locs) (hZ : Zx ws) (hc : cells ≤ 1) (hs : slots ≤ 6) : vx_W p l e R s m args below meth c H locs cells slots (vx_MQ below xNo (xX g E Zx A) args s 1 6 A) (F0 m pc ls rest) q :=
  vx_out (fun x hx => (ht x hx).elim) hlocks hcell hv hcl (fun t ht2 _ => ⟨rfl, ws, hZ, by rw [ht2]; exact hP, hS.F ht2⟩) hS.2.2 hc hs
theorem xr_S {st0 : List Value} (S : CallFix p m c cc nL s args Ts own) (hM : xMet l y wsy rm g τ As wc E Zx) (hG : GoodIn Ts (va_wsS own index y wsy)) (hd : cd y n) (hw : wsy = Cond.code y bytes maxL ret :: wsy') (hz : rm.cells = 1 ∧ rm.slots = 6) (hR : rm.frames + 1 ≤ R.frames ∧ 8 + (maxL + 11) + rm.locals ≤ R.locals) (hK : KK g τ s) (hZT : ZT s) (hZU : ZU A0 s s.heap) (hP : va_P g vwCl ws H) (hD : va_D A0 ws) (hS : va_S A0 s.heap H locs) (is : List Nat) (hC : is.map (fun i => ws[i]?) = wc.map some) (hnd : va_nd is = true) (hn : As.length = n) (hl : lv_has ls nL lv) (hst : st0 = As.reverse ++ rest) (hcat : (rest.map fun v => v.category).sum ≤ 8) (hdg : decode cc pc = .ok (.invokestatic index, 3)) (hc : cells + 1 ≤ R.cells ∧ slots + 6 ≤ R.slots) (hf : ∀ w1, Zx w1 → w1.map Prod.fst = wc.map Prod.fst)
    (kk : ∀ (w1 : va_W) (H1 : Heap) (locs1 : List Loc) (q : Addr) (ce : Cell), Zx w1 → va_P g vwCl (va_repl ws (is.zip w1)) H1 → va_D A0 (va_repl ws (is.zip w1)) → va_S A0 s.heap H1 locs1 → H1[q]? = some ce → ce.vm = .none → s.vm.findClass E = some ce.cls → vx_W p l e R s m args below meth c H1 locs1 (cells + 1) (slots + 6) Q (F0 m pc ls rest) q) : W p l e R s m args below meth c H locs cells slots Q (F0 m pc ls st0) := by
  subst hst
  have hPc : va_P g vwCl wc H := cut_P hP hC
  have hAn := inW_A hD hC
  refine xr_go (vx_runS (As := As) (rest := rest) S hM (va_cwS n S.2.2.2.2 hG hw hz.1 hz.2 hd hR) ⟨xW_blind, fun U hU hW => ⟨rfl, ⟨by rw [hU]; exact hPc, (hD.sub is hnd hC).weaken (fun _ _ _ _ => trivial), hK.warm hW⟩, hZT.warm hW, by rw [hU]; exact ZU.moved hW.alike ((hZU.kept (fun a h1 h2 => hS.2.1 a h1 h2)).narrow hAn)⟩⟩ rfl hn hl.1 rfl (lv_room hcat) hdg hc) hS hAn (fun w1 H1 locs1 q ce hZ hP1 hz1 hk1 hS1 a1 a2 a3 => ?_)
  obtain ⟨b1, b2⟩ := back_P hP hD hC (hf w1 hZ) hk1 hP1
  exact kk w1 H1 locs1 q ce hZ b1 b2 hS1 a1 a2 a3
theorem xr_V {st0 : List Value} {ci : Nat} {q : vw_C} {fs : List Value} (S : CallFix p m c cc nL s args Ts own) (hM : xMet l y wsy rm g τ (.ref b :: As) wc E Zx) (hG : GoodIn Ts (wsV own index C y wsy)) (hd : cd y n) (hw : wsy = Cond.code y bytes maxL ret :: wsy') (hyC : y.cls = C) (hz : rm.cells = 1 ∧ rm.slots = 6) (hR : rm.frames + 1 ≤ R.frames ∧ 8 + (maxL + 11) + rm.locals ≤ R.locals) (hK : KK g τ s) (hZT : ZT s) (hZU : ZU A0 s s.heap) (hP : va_P g vwCl ws H) (hD : va_D A0 ws) (hS : va_S A0 s.heap H locs) (is : List Nat) (hC : is.map (fun i => ws[i]?) = wc.map some) (hnd : va_nd is = true) (qb : Nat) (he : wc[qb]? = some (b, .inr (ci, fs))) (hq : vwCl[ci]? = some q) (hqC : q.1 = C) (hn : As.length = n) (hl : lv_has ls nL lv) (hst : st0 = As.reverse ++ .ref b :: rest) (hcat : (rest.map fun v => v.category).sum ≤ 8) (hdg : decode cc pc = .ok (.invokevirtual index, 3)) (hc : cells + 1 ≤ R.cells ∧ slots + 6 ≤ R.slots) (hf : ∀ w1, Zx w1 → w1.map Prod.fst = wc.map Prod.fst)
    (kk : ∀ (w1 : va_W) (H1 : Heap) (locs1 : List Loc) (q : Addr) (ce : Cell), Zx w1 → va_P g vwCl (va_repl ws (is.zip w1)) H1 → va_D A0 (va_repl ws (is.zip w1)) → va_S A0 s.heap H1 locs1 → H1[q]? = some ce → ce.vm = .none → s.vm.findClass E = some ce.cls → vx_W p l e R s m args below meth c H1 locs1 (cells + 1) (slots + 6) Q (F0 m pc ls rest) q) : W p l e R s m args below meth c H locs cells slots Q (F0 m pc ls st0) := by
  subst hst
  have hPc : va_P g vwCl wc H := cut_P hP hC
  have hAn := inW_A hD hC
  refine xr_go (vx_runV (As := As) (rest := rest) S hM (cwV n S.2.2.2.2 hG hw hz.1 hz.2 ⟨hyC, hd⟩ hR) ⟨xW_blind, hqC ▸ va_recv hK.1 hPc hq he, fun U hU hW => ⟨rfl, ⟨by rw [hU]; exact hPc, (hD.sub is hnd hC).weaken (fun _ _ _ _ => trivial), hK.warm hW⟩, hZT.warm hW, by rw [hU]; exact ZU.moved hW.alike ((hZU.kept (fun a h1 h2 => hS.2.1 a h1 h2)).narrow hAn)⟩⟩ rfl hn hl.1 rfl (lv_room hcat) hdg hc) hS hAn (fun w1 H1 locs1 q ce hZ hP1 hz1 hk1 hS1 a1 a2 a3 => ?_)
  obtain ⟨b1, b2⟩ := back_P hP hD hC (hf w1 hZ) hk1 hP1
  exact kk w1 H1 locs1 q ce hZ b1 b2 hS1 a1 a2 a3
end XR
/-! the three methods that throw -/
theorem cd_X9_mustExist : cd yX9_mustExist 1 := by decide +kernel
theorem c_X9_mustExist (l : Launch) (g : va_G) (τ : Nat → ClassId) : Met l yX9_mustExist wsX9_mustExist { frames := 0, cells := 0, slots := 0, locals := 0 } (va_Pc [Value.int (iI 1)] (roW g τ [])) (roQ none) 0 0 nof := by
  refine roMet (cc := cX9_mustExist) (maxL := 1) (ret := none) (lv := [(0, Value.int (iI 1))]) (by decide) rfl (Nat.le_of_ble_eq_true rfl) rfl ?_
  intro p e s m below meth c hx hb hr hml hts hown hlocks hP hK ls hl
  refine lv_iload_n hx hb dX9_mustExist_0 rfl (lv_at hl 0 rfl) ?_
  refine zi_if_ne (tgt := 15) hx hb ⟨by decide, by decide⟩ dX9_mustExist_1 (by decide) (fun c => ?_) (fun c => absurd c (by decide))
  exact W.vret hx hb hr (fun t ht _ => ⟨rfl, ht⟩) (fun _ h => by cases h) dX9_mustExist_15
theorem x_X9_mustExist (l : Launch) (hst : l.stackTraces = false) (g : va_G) (τ : Nat → ClassId) : xMet l yX9_mustExist wsX9_mustExist { frames := 6, cells := 1, slots := 6, locals := 90 } g τ [Value.int (iI 0)] [] "java/lang/IndexOutOfBoundsException" (fun w => w = []) := by
  refine xMet_of (cc := cX9_mustExist) (maxL := 1) (ret := none) (lv := [(0, Value.int (iI 0))]) (by decide) rfl (Nat.le_of_ble_eq_true rfl) rfl ?_
  intro p e s m below meth c hx hb hr hml hts hown hlocks ht A H hP hD hS hK hZT hZU ls hl
  obtain ⟨⟨⟨a1, h1⟩, -, -⟩, hw⟩ := hZT
  refine lv_iload_n hx hb dX9_mustExist_0 rfl (lv_at hl 0 rfl) ?_
  refine zi_if_ne (tgt := 15) hx hb ⟨by decide, by decide⟩ dX9_mustExist_1 (by decide) (fun c => absurd rfl c) (fun c => ?_)
  have hg : ∀ w ∈ vx_atS RX9 369 "java/lang/IndexOutOfBoundsException" xN, w ∈ xWs := fun w h => List.mem_append_left _ h
  refine vx_throwSW (names := xN) (own := RX9) (cls := "java/lang/IndexOutOfBoundsException") (ik := 365) (is := 367) (ic := 369) (sa := a1) hx hb hst hown (by decide) (by decide) (hts _ (List.mem_of_getElem? (i := 1) rfl)) (hts _ (List.mem_of_getElem? (i := 2) rfl)) h1 (vx_hat (B := xBad) (fun w h => hts w (List.mem_cons_of_mem _ (List.mem_append_right _ h))) (fun w h => List.mem_filter.mpr ⟨hg w (List.mem_filter.mp h).1, (List.mem_filter.mp h).2⟩) (fun w h => hw w h _)) (fun w h => ?_) hZU.1 hZU.2 hS (hl.1.trans hml.symm) dX9_mustExist_4 dX9_mustExist_7 dX9_mustExist_8 dX9_mustExist_11 dX9_mustExist_14 (fun x hx => (ht x hx).elim) (by decide) (by decide) (by decide) (by decide) hlocks (fun t hal hz hk => ⟨rfl, [], rfl, (fun k q h => nomatch h), Nat.le_trans hS.1 hz, fun q h1 h2 => (hk q (Nat.lt_of_lt_of_le h1 hS.1)).trans (hS.2.1 q h1 h2)⟩) hS.2.2 (by decide) (by decide)
  rcases List.mem_cons.mp h with rfl | h
  · rfl
  · rcases List.mem_cons.mp h with rfl | h
    · rfl
    · exact List.all_eq_true.mp xWs_ot w (hg w h)
theorem cd_X9_mustFit : cd yX9_mustFit 1 := by decide +kernel
theorem c_X9_mustFit (l : Launch) (g : va_G) (τ : Nat → ClassId) : Met l yX9_mustFit wsX9_mustFit { frames := 0, cells := 0, slots := 0, locals := 0 } (va_Pc [Value.int (iI 1)] (roW g τ [])) (roQ none) 0 0 nof := by
  refine roMet (cc := cX9_mustFit) (maxL := 1) (ret := none) (lv := [(0, Value.int (iI 1))]) (by decide) rfl (Nat.le_of_ble_eq_true rfl) rfl ?_
  intro p e s m below meth c hx hb hr hml hts hown hlocks hP hK ls hl
  refine lv_iload_n hx hb dX9_mustFit_0 rfl (lv_at hl 0 rfl) ?_
  refine zi_if_ne (tgt := 15) hx hb ⟨by decide, by decide⟩ dX9_mustFit_1 (by decide) (fun c => ?_) (fun c => absurd c (by decide))
  exact W.vret hx hb hr (fun t ht _ => ⟨rfl, ht⟩) (fun _ h => by cases h) dX9_mustFit_15
theorem x_X9_mustFit (l : Launch) (hst : l.stackTraces = false) (g : va_G) (τ : Nat → ClassId) : xMet l yX9_mustFit wsX9_mustFit { frames := 6, cells := 1, slots := 6, locals := 90 } g τ [Value.int (iI 0)] [] "java/lang/IllegalArgumentException" (fun w => w = []) := by
  refine xMet_of (cc := cX9_mustFit) (maxL := 1) (ret := none) (lv := [(0, Value.int (iI 0))]) (by decide) rfl (Nat.le_of_ble_eq_true rfl) rfl ?_
  intro p e s m below meth c hx hb hr hml hts hown hlocks ht A H hP hD hS hK hZT hZU ls hl
  obtain ⟨⟨-, ⟨a1, h1⟩, -⟩, hw⟩ := hZT
  refine lv_iload_n hx hb dX9_mustFit_0 rfl (lv_at hl 0 rfl) ?_
  refine zi_if_ne (tgt := 15) hx hb ⟨by decide, by decide⟩ dX9_mustFit_1 (by decide) (fun c => absurd rfl c) (fun c => ?_)
  have hg : ∀ w ∈ vx_atS RX9 376 "java/lang/IllegalArgumentException" xN, w ∈ xWs := fun w h => List.mem_append_right _ (List.mem_append_left _ h)
  refine vx_throwSW (names := xN) (own := RX9) (cls := "java/lang/IllegalArgumentException") (ik := 372) (is := 374) (ic := 376) (sa := a1) hx hb hst hown (by decide) (by decide) (hts _ (List.mem_of_getElem? (i := 1) rfl)) (hts _ (List.mem_of_getElem? (i := 2) rfl)) h1 (vx_hat (B := xBad) (fun w h => hts w (List.mem_cons_of_mem _ (List.mem_append_right _ h))) (fun w h => List.mem_filter.mpr ⟨hg w (List.mem_filter.mp h).1, (List.mem_filter.mp h).2⟩) (fun w h => hw w h _)) (fun w h => ?_) hZU.1 hZU.2 hS (hl.1.trans hml.symm) dX9_mustFit_4 dX9_mustFit_7 dX9_mustFit_8 dX9_mustFit_11 dX9_mustFit_14 (fun x hx => (ht x hx).elim) (by decide) (by decide) (by decide) (by decide) hlocks (fun t hal hz hk => ⟨rfl, [], rfl, (fun k q h => nomatch h), Nat.le_trans hS.1 hz, fun q h1 h2 => (hk q (Nat.lt_of_lt_of_le h1 hS.1)).trans (hS.2.1 q h1 h2)⟩) hS.2.2 (by decide) (by decide)
  rcases List.mem_cons.mp h with rfl | h
  · rfl
  · rcases List.mem_cons.mp h with rfl | h
    · rfl
    · exact List.all_eq_true.mp xWs_ot w (hg w h)
theorem cd_X9_mustBeFree : cd yX9_mustBeFree 1 := by decide +kernel
theorem c_X9_mustBeFree (l : Launch) (g : va_G) (τ : Nat → ClassId) : Met l yX9_mustBeFree wsX9_mustBeFree { frames := 0, cells := 0, slots := 0, locals := 0 } (va_Pc [Value.int (iI 1)] (roW g τ [])) (roQ none) 0 0 nof := by
  refine roMet (cc := cX9_mustBeFree) (maxL := 1) (ret := none) (lv := [(0, Value.int (iI 1))]) (by decide) rfl (Nat.le_of_ble_eq_true rfl) rfl ?_
  intro p e s m below meth c hx hb hr hml hts hown hlocks hP hK ls hl
  refine lv_iload_n hx hb dX9_mustBeFree_0 rfl (lv_at hl 0 rfl) ?_
  refine zi_if_ne (tgt := 15) hx hb ⟨by decide, by decide⟩ dX9_mustBeFree_1 (by decide) (fun c => ?_) (fun c => absurd c (by decide))
  exact W.vret hx hb hr (fun t ht _ => ⟨rfl, ht⟩) (fun _ h => by cases h) dX9_mustBeFree_15
theorem x_X9_mustBeFree (l : Launch) (hst : l.stackTraces = false) (g : va_G) (τ : Nat → ClassId) : xMet l yX9_mustBeFree wsX9_mustBeFree { frames := 6, cells := 1, slots := 6, locals := 90 } g τ [Value.int (iI 0)] [] "java/lang/IllegalStateException" (fun w => w = []) := by
  refine xMet_of (cc := cX9_mustBeFree) (maxL := 1) (ret := none) (lv := [(0, Value.int (iI 0))]) (by decide) rfl (Nat.le_of_ble_eq_true rfl) rfl ?_
  intro p e s m below meth c hx hb hr hml hts hown hlocks ht A H hP hD hS hK hZT hZU ls hl
  obtain ⟨⟨-, -, ⟨a1, h1⟩⟩, hw⟩ := hZT
  refine lv_iload_n hx hb dX9_mustBeFree_0 rfl (lv_at hl 0 rfl) ?_
  refine zi_if_ne (tgt := 15) hx hb ⟨by decide, by decide⟩ dX9_mustBeFree_1 (by decide) (fun c => absurd rfl c) (fun c => ?_)
  have hg : ∀ w ∈ vx_atS RX9 381 "java/lang/IllegalStateException" xN, w ∈ xWs := fun w h => List.mem_append_right _ (List.mem_append_right _ h)
  refine vx_throwSW (names := xN) (own := RX9) (cls := "java/lang/IllegalStateException") (ik := 377) (is := 379) (ic := 381) (sa := a1) hx hb hst hown (by decide) (by decide) (hts _ (List.mem_of_getElem? (i := 1) rfl)) (hts _ (List.mem_of_getElem? (i := 2) rfl)) h1 (vx_hat (B := xBad) (fun w h => hts w (List.mem_cons_of_mem _ (List.mem_append_right _ h))) (fun w h => List.mem_filter.mpr ⟨hg w (List.mem_filter.mp h).1, (List.mem_filter.mp h).2⟩) (fun w h => hw w h _)) (fun w h => ?_) hZU.1 hZU.2 hS (hl.1.trans hml.symm) dX9_mustBeFree_4 dX9_mustBeFree_7 dX9_mustBeFree_8 dX9_mustBeFree_11 dX9_mustBeFree_14 (fun x hx => (ht x hx).elim) (by decide) (by decide) (by decide) (by decide) hlocks (fun t hal hz hk => ⟨rfl, [], rfl, (fun k q h => nomatch h), Nat.le_trans hS.1 hz, fun q h1 h2 => (hk q (Nat.lt_of_lt_of_le h1 hS.1)).trans (hS.2.1 q h1 h2)⟩) hS.2.2 (by decide) (by decide)
  rcases List.mem_cons.mp h with rfl | h
  · rfl
  · rcases List.mem_cons.mp h with rfl | h
    · rfl
    · exact List.all_eq_true.mp xWs_ot w (hg w h)
