/-! methods that answer or throw; worlds in blocks, brought into order by permutations -/
theorem va_P.pm {D : va_G} {cl : List vw_C} {ws ws' : va_W} {H : Heap} (h : va_P D cl ws H) (e : ws.Perm ws') : va_P D cl ws' H := fun k q hk => by
  obtain ⟨i, hi⟩ := List.getElem?_of_mem (e.mem_iff.mpr (List.mem_of_getElem? hk))
  exact h i q hi
theorem nd_of {ws : va_W} (h : ∀ (i j : Nat) (p q : Nat × va_E), ws[i]? = some p → ws[j]? = some q → p.1 = q.1 → i = j) : (ws.map Prod.fst).Nodup := by
  refine List.pairwise_iff_getElem.mpr (fun i j hi hj hij e => ?_)
  rw [List.getElem_map, List.getElem_map] at e
  rw [List.length_map] at hi hj
  have := h i j _ _ (List.getElem?_eq_getElem hi) (List.getElem?_eq_getElem hj) e
  omega
theorem of_nd {ws : va_W} (h : (ws.map Prod.fst).Nodup) : ∀ (i j : Nat) (p q : Nat × va_E), ws[i]? = some p → ws[j]? = some q → p.1 = q.1 → i = j := by
  intro i j p q hp hq e
  have h2 := List.pairwise_iff_getElem.mp h
  obtain ⟨hi, hp2⟩ := List.getElem?_eq_some_iff.mp hp
  obtain ⟨hj, hq2⟩ := List.getElem?_eq_some_iff.mp hq
  rcases Nat.lt_trichotomy i j with c | c | c
  · refine absurd ?_ (h2 i j (by rw [List.length_map]; exact hi) (by rw [List.length_map]; exact hj) c)
    rw [List.getElem_map, List.getElem_map, hp2, hq2]
    exact e
  · exact c
  · refine absurd ?_ (h2 j i (by rw [List.length_map]; exact hj) (by rw [List.length_map]; exact hi) c)
    rw [List.getElem_map, List.getElem_map, hp2, hq2]
    exact e.symm
theorem va_D.pm {A : Nat → Prop} {ws ws' : va_W} (h : va_D A ws) (e : ws.Perm ws') : va_D A ws' := by
  refine ⟨of_nd ((e.map Prod.fst).nodup_iff.mp (nd_of h.1)), fun k q hk => ?_⟩
  obtain ⟨i, hi⟩ := List.getElem?_of_mem (e.mem_iff.mpr (List.mem_of_getElem? hk))
  exact h.2 i q hi
theorem va_D.left {A : Nat → Prop} {a b : va_W} (h : va_D A (a ++ b)) : va_D A a := by
  have key : ∀ (k : Nat) (q : Nat × va_E), a[k]? = some q → (a ++ b)[k]? = some q := fun k q hk => by rw [List.getElem?_append_left (List.getElem?_eq_some_iff.mp hk).1]; exact hk
  exact ⟨fun i j p q hp hq e => h.1 i j p q (key i p hp) (key j q hq) e, fun k q hk => h.2 k q (key k q hk)⟩
theorem u_back {D : va_G} {cl : List vw_C} {A0 : Nat → Prop} {wc w1 wr : va_W} {H H1 : Heap} (hP : va_P D cl (wc ++ wr) H) (hD : va_D A0 (wc ++ wr)) (hf : w1.map Prod.fst = wc.map Prod.fst) (hk : ∀ q : Nat, q < H.size → ¬ inW wc q → H1[q]? = H[q]?) (hP1 : va_P D cl w1 H1) : va_P D cl (w1 ++ wr) H1 ∧ va_D A0 (w1 ++ wr) := by
  refine ⟨hP1.app (fun k q hq => ?_), hD.fst (by rw [List.map_append, List.map_append, hf])⟩
  have hq2 : (wc ++ wr)[wc.length + k]? = some q := by rw [List.getElem?_append_right (by omega), Nat.add_sub_cancel_left]; exact hq
  refine (hP _ q hq2).kept (hk q.1 (hP _ q hq2).lt ?_)
  rintro ⟨j, e, hj⟩
  have hlt := (List.getElem?_eq_some_iff.mp hj).1
  have hj2 : (wc ++ wr)[j]? = some (q.1, e) := by rw [List.getElem?_append_left hlt]; exact hj
  have := hD.1 j (wc.length + k) _ _ hj2 hq2 rfl
  omega
theorem u_inW {A0 : Nat → Prop} {wc wr : va_W} (hD : va_D A0 (wc ++ wr)) : ∀ q, inW wc q → A0 q := by
  rintro q ⟨k, e, hk⟩
  exact hD.left.2 k _ hk
def uX (g : va_G) (Zx : String → va_W → Prop) (A : Nat → Prop) : String → State → State → Prop := fun E st t => ∃ w1, Zx E w1 ∧ va_P g vwCl w1 t.heap ∧ va_F A st t
/-- a method that answers or throws, from a world like this -/
def uMet (l : Launch) (y : MethodName) (ws : List Cond) (rm : Room) (g : va_G) (τ : Nat → ClassId) (av : List Value) (wc : va_W) (Z : Option Value → va_W → Prop) (Zx : String → va_W → Prop) : Prop := vx_Met l y ws rm (va_Pc av (xW g τ wc)) (rwQ g Z (inW wc)) (uX g Zx (inW wc)) 1 6 (inW wc)
theorem uMet_of {l : Launch} {y : MethodName} {ws ws' : List Cond} {rm : Room} {cc : ByteArray} {maxL : Nat} {ret : Option FieldType} {g : va_G} {τ : Nat → ClassId} {wc : va_W} {av : List Value} {lv : List (Nat × Value)} {Z : Option Value → va_W → Prop} {Zx : String → va_W → Prop} (hy : plainName y.cls = true) (hw : ws = Cond.code y cc maxL ret :: ws') (hn : (lg_sl av).length ≤ maxL) (hlv : lv_args 0 av = lv)
    (body : ∀ (p : Program) (e : Env) (s : State) (m : MethodId) (below : List Frame) (meth : Method) (c : Code), p.tables.exec = Jvm.exec → c.code = cc → meth.sig.returnType = ret → c.maxLocals = maxL → (∀ w ∈ ws, w.before av.toArray s = true) → s.vm.findClass y.cls = some m.cls → meth.locks = false → (∀ x ∈ c.exceptionTable.toList, False) → ∀ (A : Nat → Prop) (H : Heap), va_P g vwCl wc H → va_D A wc → va_S A s.heap H [] → KK g τ s → ZT s → ZU A s s.heap → ∀ ls : Array Slot, lv_has ls maxL lv →
      W p l e rm s m av.toArray below meth c H [] 0 0 (vx_MQ below (rwQ g Z A) (uX g Zx A) av.toArray s 1 6 A) (F0 m 0 ls [])) : uMet l y ws rm g τ av wc Z Zx := by
  refine vx_ofW (cc := cc) (maxL := maxL) (ret := ret) hy hw ?_
  intro p e s m args below meth c s₁ B hml ht hv
  obtain ⟨rfl, ⟨hP, hD, hK⟩, hZ, hU⟩ := hv
  rw [lg_entry_eq]
  have hl := lv_entry av (n := maxL) hn
  rw [hlv] at hl
  exact body p e s m below meth c B.exec B.bytes B.returns hml (atoms_spec (ws := ws) B.pre) (findClass_of_methodNamed B.named) B.notSynchronized ht _ _ hP ⟨hD.1, fun k q hk => ⟨k, q.2, hk⟩⟩ va_S.rf hK hZ hU _ hl
section UR
variable {p : Program} {l : Launch} {e : Env} {R : Room} {s : State} {m : MethodId} {args : Array Value} {below : List Frame} {meth : Method} {c : Code} {H H0 : Heap} {locs : List Loc} {cells slots : Nat} {Q : State → Prop}
variable {y : MethodName} {bytes cc : ByteArray} {maxL nL n index pc : Nat} {ret : Option FieldType} {wsy wsy' : List Cond} {rm rmx : Room} {Ts : List Cond} {own C : String} {b : Addr} {As rest : List Value} {ls : Array Slot} {g : va_G} {τ : Nat → ClassId} {ws wc wr : va_W} {lv : List (Nat × Value)} {A A0 : Nat → Prop} {E : String} {Z : Option Value → va_W → Prop} {Zx : String → va_W → Prop} {a : Array Value}
/-- a call that writes: the callee's blocks are brought to the front -/
theorem rq_V {ci : Nat} {q : vw_C} {fs : List Value} (S : CallFix p m c cc nL s args Ts own) (hM : Met l y wsy rm (va_Pc (.ref b :: As) (rwW g τ wc)) (rwQ g Z (inW wc)) 0 0 (inW wc)) (hG : GoodIn Ts (wsV own index C y wsy)) (hd : cd y n) (hw : wsy = Cond.code y bytes maxL ret :: wsy') (hyC : y.cls = C) (hz : rm.cells = 0 ∧ rm.slots = 0) (hR : rm.frames + 1 ≤ R.frames ∧ 8 + (maxL + 11) + rm.locals ≤ R.locals) (hK : KK g τ s) (hP : va_P g vwCl ws H) (hD : va_D A0 ws) (hS : va_S A0 H0 H locs) (hC : ws.Perm (wc ++ wr)) (qb : Nat) (he : wc[qb]? = some (b, .inr (ci, fs))) (hq : vwCl[ci]? = some q) (hqC : q.1 = C) (hn : As.length = n) (hl : lv_has ls nL lv) {st0 : List Value} (hst : st0 = As.reverse ++ .ref b :: rest) (hcat : (rest.map fun v => v.category).sum ≤ 8) (hdg : decode cc pc = .ok (.invokevirtual index, 3)) (hc : cells ≤ R.cells ∧ slots ≤ R.slots) (hf : ∀ v w1, Z v w1 → w1.map Prod.fst = wc.map Prod.fst)
    (kk : ∀ (v : Option Value) (w1 : va_W) (H1 : Heap) (locs1 : List Loc), Z v w1 → va_P g vwCl (w1 ++ wr) H1 → va_D A0 (w1 ++ wr) → va_S A0 H0 H1 locs1 → W p l e R s m args below meth c H1 locs1 cells slots Q (F0 m (pc + 3) ls (v.toList ++ rest))) : W p l e R s m args below meth c H locs cells slots Q (F0 m pc ls st0) := by
  subst hst
  have hP2 := hP.pm hC
  have hD2 := hD.pm hC
  have hPc : va_P g vwCl wc H := va_left hP2
  refine rw_call (va_runV (As := As) (rest := rest) S hM (cwV n S.2.2.2.2 hG hw hz.1 hz.2 ⟨hyC, hd⟩ hR) ⟨rwW_blind, hqC ▸ va_recv hK.1 hPc hq he, fun U hU hW => ⟨rfl, by rw [hU]; exact hPc, hD2.left.weaken (fun _ _ _ _ => trivial), hK.warm hW⟩⟩ rfl hn hl.1 rfl (lv_room hcat) hdg hc) hS (u_inW hD2) (fun v w1 H1 locs1 hZ hP1 hz1 hk1 hS1 => ?_)
  obtain ⟨a1, a2⟩ := u_back hP2 hD2 (hf v w1 hZ) hk1 hP1
  exact kk v w1 H1 locs1 hZ a1 a2 hS1
theorem ru_go {st0 : List Value} (hr : vx_Run p l e R s m args below meth c H locs cells slots 1 6 (F0 m pc ls st0) rest (rwQ g Z (inW wc) a) (uX g Zx (inW wc)) (inW wc)) (hP : va_P g vwCl (wc ++ wr) H) (hD : va_D A0 (wc ++ wr)) (hS : va_S A0 H0 H locs) (hf : ∀ v w1, Z v w1 → w1.map Prod.fst = wc.map Prod.fst) (hfx : ∀ E w1, Zx E w1 → w1.map Prod.fst = wc.map Prod.fst)
    (kx : ∀ (E : String) (w1 : va_W) (H1 : Heap) (locs1 : List Loc) (q : Addr) (ce : Cell), Zx E w1 → va_P g vwCl (w1 ++ wr) H1 → va_D A0 (w1 ++ wr) → va_S A0 H0 H1 locs1 → H1[q]? = some ce → ce.vm = .none → s.vm.findClass E = some ce.cls → vx_W p l e R s m args below meth c H1 locs1 (cells + 1) (slots + 6) Q (F0 m pc ls rest) q)
    (kk : ∀ (v : Option Value) (w1 : va_W) (H1 : Heap) (locs1 : List Loc), Z v w1 → va_P g vwCl (w1 ++ wr) H1 → va_D A0 (w1 ++ wr) → va_S A0 H0 H1 locs1 → W p l e R s m args below meth c H1 locs1 (cells + 1) (slots + 6) Q (F0 m (pc + 3) ls (v.toList ++ rest))) : W p l e R s m args below meth c H locs cells slots Q (F0 m pc ls st0) := by
  have hA := u_inW hD
  intro T hT X
  rcases hr T hT X with ⟨v', st₀, t, T', L, h0, X', hL, e1, e2, ⟨v, w1, hZ, hv, hP1, hz, hk⟩, st⟩ | ⟨q, st₀, t, T', L, E1, ce, h0, X', hL, e1, e2, ⟨w1, hZ, hP1, hz, hk⟩, hce, hv, hcl, st⟩
  · cases hv
    rw [h0] at hz hk
    obtain ⟨b1, b2⟩ := u_back hP hD (hf _ w1 hZ) hk hP1
    obtain ⟨t2, c1, c2⟩ := kk v' w1 T'.heap (locs ++ L) hZ (by rw [e1]; exact b1) b2
      ⟨Nat.le_trans hS.1 (by rw [e1]; exact hz), fun q h1 h2 => by rw [e1, hk q (Nat.lt_of_lt_of_le h1 hS.1) (fun z => h2 (hA q z))]; exact hS.2.1 q h1 h2, fun q hq => by
        rcases List.mem_append.mp hq with h | h
        · exact hS.2.2 q h
        · exact hA _ (hL q h)⟩ T' rfl X'
    exact ⟨t2, st t2 c1, c2⟩
  · rw [h0] at hz hk
    obtain ⟨b1, b2⟩ := u_back hP hD (hfx E1 w1 hZ) hk hP1
    obtain ⟨t2, c1, c2⟩ := kx E1 w1 T'.heap (locs ++ L) q ce hZ (by rw [e1]; exact b1) b2
      ⟨Nat.le_trans hS.1 (by rw [e1]; exact hz), fun q h1 h2 => by rw [e1, hk q (Nat.lt_of_lt_of_le h1 hS.1) (fun z => h2 (hA q z))]; exact hS.2.1 q h1 h2, fun q hq => by
        rcases List.mem_append.mp hq with h | h
        · exact hS.2.2 q h
        · exact hA _ (hL q h)⟩ (by rw [e1]; exact hce) hv hcl T' rfl X'
    exact ⟨t2, st.trans c1, c2⟩
/-- a call of a method that answers or throws -/
theorem ru_V {ci : Nat} {q : vw_C} {fs : List Value} (S : CallFix p m c cc nL s args Ts own) (hM : uMet l y wsy rm g τ (.ref b :: As) wc Z Zx) (hG : GoodIn Ts (wsV own index C y wsy)) (hd : cd y n) (hw : wsy = Cond.code y bytes maxL ret :: wsy') (hyC : y.cls = C) (hz : rm.cells = 1 ∧ rm.slots = 6) (hR : rm.frames + 1 ≤ R.frames ∧ 8 + (maxL + 11) + rm.locals ≤ R.locals) (hK : KK g τ s) (hZT : ZT s) (hZU : ZU A0 s s.heap) (hP : va_P g vwCl ws H) (hD : va_D A0 ws) (hS : va_S A0 s.heap H locs) (hC : ws.Perm (wc ++ wr)) (qb : Nat) (he : wc[qb]? = some (b, .inr (ci, fs))) (hq : vwCl[ci]? = some q) (hqC : q.1 = C) (hn : As.length = n) (hl : lv_has ls nL lv) {st0 : List Value} (hst : st0 = As.reverse ++ .ref b :: rest) (hcat : (rest.map fun v => v.category).sum ≤ 8) (hdg : decode cc pc = .ok (.invokevirtual index, 3)) (hc : cells + 1 ≤ R.cells ∧ slots + 6 ≤ R.slots) (hf : ∀ v w1, Z v w1 → w1.map Prod.fst = wc.map Prod.fst) (hfx : ∀ E w1, Zx E w1 → w1.map Prod.fst = wc.map Prod.fst)
    (kx : ∀ (E : String) (w1 : va_W) (H1 : Heap) (locs1 : List Loc) (q : Addr) (ce : Cell), Zx E w1 → va_P g vwCl (w1 ++ wr) H1 → va_D A0 (w1 ++ wr) → va_S A0 s.heap H1 locs1 → H1[q]? = some ce → ce.vm = .none → s.vm.findClass E = some ce.cls → vx_W p l e R s m args below meth c H1 locs1 (cells + 1) (slots + 6) Q (F0 m pc ls rest) q)
    (kk : ∀ (v : Option Value) (w1 : va_W) (H1 : Heap) (locs1 : List Loc), Z v w1 → va_P g vwCl (w1 ++ wr) H1 → va_D A0 (w1 ++ wr) → va_S A0 s.heap H1 locs1 → W p l e R s m args below meth c H1 locs1 (cells + 1) (slots + 6) Q (F0 m (pc + 3) ls (v.toList ++ rest))) : W p l e R s m args below meth c H locs cells slots Q (F0 m pc ls st0) := by
  subst hst
  have hP2 := hP.pm hC
  have hD2 := hD.pm hC
  have hPc : va_P g vwCl wc H := va_left hP2
  exact ru_go (vx_runV (As := As) (rest := rest) S hM (cwV n S.2.2.2.2 hG hw hz.1 hz.2 ⟨hyC, hd⟩ hR) ⟨xW_blind, hqC ▸ va_recv hK.1 hPc hq he, fun U hU hW => ⟨rfl, ⟨by rw [hU]; exact hPc, hD2.left.weaken (fun _ _ _ _ => trivial), hK.warm hW⟩, hZT.warm hW, by rw [hU]; exact ZU.moved hW.alike ((hZU.kept (fun a h1 h2 => hS.2.1 a h1 h2)).narrow (u_inW hD2))⟩⟩ rfl hn hl.1 rfl (lv_room hcat) hdg hc) hP2 hD2 hS hf hfx kx kk
theorem ru_S (S : CallFix p m c cc nL s args Ts own) (hM : uMet l y wsy rm g τ As wc Z Zx) (hG : GoodIn Ts (va_wsS own index y wsy)) (hd : cd y n) (hw : wsy = Cond.code y bytes maxL ret :: wsy') (hz : rm.cells = 1 ∧ rm.slots = 6) (hR : rm.frames + 1 ≤ R.frames ∧ 8 + (maxL + 11) + rm.locals ≤ R.locals) (hK : KK g τ s) (hZT : ZT s) (hZU : ZU A0 s s.heap) (hP : va_P g vwCl ws H) (hD : va_D A0 ws) (hS : va_S A0 s.heap H locs) (hC : ws.Perm (wc ++ wr)) (hn : As.length = n) (hl : lv_has ls nL lv) {st0 : List Value} (hst : st0 = As.reverse ++ rest) (hcat : (rest.map fun v => v.category).sum ≤ 8) (hdg : decode cc pc = .ok (.invokestatic index, 3)) (hc : cells + 1 ≤ R.cells ∧ slots + 6 ≤ R.slots) (hf : ∀ v w1, Z v w1 → w1.map Prod.fst = wc.map Prod.fst) (hfx : ∀ E w1, Zx E w1 → w1.map Prod.fst = wc.map Prod.fst)
    (kx : ∀ (E : String) (w1 : va_W) (H1 : Heap) (locs1 : List Loc) (q : Addr) (ce : Cell), Zx E w1 → va_P g vwCl (w1 ++ wr) H1 → va_D A0 (w1 ++ wr) → va_S A0 s.heap H1 locs1 → H1[q]? = some ce → ce.vm = .none → s.vm.findClass E = some ce.cls → vx_W p l e R s m args below meth c H1 locs1 (cells + 1) (slots + 6) Q (F0 m pc ls rest) q)
    (kk : ∀ (v : Option Value) (w1 : va_W) (H1 : Heap) (locs1 : List Loc), Z v w1 → va_P g vwCl (w1 ++ wr) H1 → va_D A0 (w1 ++ wr) → va_S A0 s.heap H1 locs1 → W p l e R s m args below meth c H1 locs1 (cells + 1) (slots + 6) Q (F0 m (pc + 3) ls (v.toList ++ rest))) : W p l e R s m args below meth c H locs cells slots Q (F0 m pc ls st0) := by
  subst hst
  have hP2 := hP.pm hC
  have hD2 := hD.pm hC
  have hPc : va_P g vwCl wc H := va_left hP2
  exact ru_go (vx_runS (As := As) (rest := rest) S hM (va_cwS n S.2.2.2.2 hG hw hz.1 hz.2 hd hR) ⟨xW_blind, fun U hU hW => ⟨rfl, ⟨by rw [hU]; exact hPc, hD2.left.weaken (fun _ _ _ _ => trivial), hK.warm hW⟩, hZT.warm hW, by rw [hU]; exact ZU.moved hW.alike ((hZU.kept (fun a h1 h2 => hS.2.1 a h1 h2)).narrow (u_inW hD2))⟩⟩ rfl hn hl.1 rfl (lv_room hcat) hdg hc) hP2 hD2 hS hf hfx kx kk
/-- it is not caught here: it goes out -/
theorem u_out {q : Addr} {ce : Cell} (ht : ∀ x ∈ c.exceptionTable.toList, False) (hlocks : meth.locks = false) (hcell : H[q]? = some ce) (hv : ce.vm = .none) (hcl : s.vm.findClass E = some ce.cls) (hP : va_P g vwCl ws H) (hS : va_S A s.heap H locs) (hc : cells ≤ 1 ∧ slots ≤ 6) (hZ : Zx E ws) : vx_W p l e R s m args below meth c H locs cells slots (vx_MQ below (rwQ g Z A) (uX g Zx A) args s 1 6 A) (F0 m pc ls rest) q :=
  vx_out (fun x hx => (ht x hx).elim) hlocks hcell hv hcl (fun t ht2 _ => ⟨ws, hZ, by rw [ht2]; exact hP, hS.F ht2⟩) hS.2.2 hc.1 hc.2
/-- a check: it holds, or it throws -/
theorem u_must {E : String} (S : CallFix p m c cc nL s args Ts own) (hM : Met l y wsy rm (va_Pc [Value.int (iI 1)] (roW g τ [])) (roQ none) 0 0 nof) (hX : xMet l y wsy rmx g τ [Value.int (iI 0)] [] E (fun w => w = [])) (hG : GoodIn Ts (va_wsS own index y wsy)) (hd : cd y 1) (hw : wsy = Cond.code y bytes maxL ret :: wsy') (hz : rm.cells = 0 ∧ rm.slots = 0) (hzx : rmx.cells = 1 ∧ rmx.slots = 6) (hR : rm.frames + 1 ≤ R.frames ∧ 8 + (maxL + 11) + rm.locals ≤ R.locals) (hRx : rmx.frames + 1 ≤ R.frames ∧ 8 + (maxL + 11) + rmx.locals ≤ R.locals) (hK : KK g τ s) (hZT : ZT s) (hZU : ZU A0 s s.heap) (hP : va_P g vwCl ws H) (hD : va_D A0 ws) (hS : va_S A0 s.heap H locs) (hl : lv_has ls nL lv) (b : Bool) {st0 : List Value} (hst : st0 = Value.int (iI (zB b)) :: rest) (hcat : (rest.map fun v => v.category).sum ≤ 8) (hdg : decode cc pc = .ok (.invokestatic index, 3)) (hc : cells ≤ R.cells ∧ slots ≤ R.slots) (hcx : cells + 1 ≤ R.cells ∧ slots + 6 ≤ R.slots)
    (kx : b = false → ∀ (H1 : Heap) (locs1 : List Loc) (q : Addr) (ce : Cell), va_P g vwCl ws H1 → va_D A0 ws → va_S A0 s.heap H1 locs1 → H1[q]? = some ce → ce.vm = .none → s.vm.findClass E = some ce.cls → vx_W p l e R s m args below meth c H1 locs1 (cells + 1) (slots + 6) Q (F0 m pc ls rest) q)
    (kk : b = true → W p l e R s m args below meth c H locs cells slots Q (F0 m (pc + 3) ls rest)) : W p l e R s m args below meth c H locs cells slots Q (F0 m pc ls st0) := by
  subst hst
  cases hb : b with
  | true => exact ro_S (As := [Value.int (iI 1)]) (rest := rest) (v := none) S hM hG hd hw hz hR hK (fun _ _ h => nomatch h) rfl hl rfl hcat hdg hc (kk hb)
  | false => exact xr_S (As := [Value.int (iI 0)]) (rest := rest) S hX hG hd hw hzx hRx hK hZT hZU hP hD hS [] rfl rfl rfl hl rfl hcat hdg hcx (fun w1 h => by rw [h]) (fun w1 H1 locs1 q ce hZ hP1 hD1 hS1 a1 a2 a3 => by
      subst hZ
      exact kx hb H1 locs1 q ce hP1 hD1 hS1 a1 a2 a3)
theorem u_iret {r : Int32} (hexec : p.tables.exec = Jvm.exec) (hb : c.code = cc) (hr : meth.sig.returnType = some .int) (hlocks : meth.locks = false) (hP : va_P g vwCl ws H) (hS : va_S A s.heap H locs) (hc : cells ≤ 1 ∧ slots ≤ 6) (hZ : Z (some (.int r)) ws) (hdg : decode cc pc = .ok (.ireturn, 1)) : W p l e R s m args below meth c H locs cells slots (vx_MQ below (rwQ g Z A) (uX g Zx A) args s 1 6 A) (F0 m pc ls [.int r]) :=
  vx_ret (W.widen hc.1 hc.2 (W.iret hexec hb hr (fun t ht _ => ⟨_, ws, hZ, rfl, by rw [ht]; exact hP, hS.F ht⟩) hS.2.2 hdg))
theorem u_zret {r : Int32} (hexec : p.tables.exec = Jvm.exec) (hb : c.code = cc) (hr : meth.sig.returnType = some .boolean) (hlocks : meth.locks = false) (hP : va_P g vwCl ws H) (hS : va_S A s.heap H locs) (hc : cells ≤ 1 ∧ slots ≤ 6) (hZ : Z (some (.int r)) ws ∧ ∃ b, r = b2 b) (hdg : decode cc pc = .ok (.ireturn, 1)) : W p l e R s m args below meth c H locs cells slots (vx_MQ below (rwQ g Z A) (uX g Zx A) args s 1 6 A) (F0 m pc ls [.int r]) := by
  obtain ⟨hZ, b, rfl⟩ := hZ
  exact vx_ret (W.widen hc.1 hc.2 (W.zret hexec hb hr (nar_b2 b) (fun t ht _ => ⟨_, ws, hZ, rfl, by rw [ht]; exact hP, hS.F ht⟩) hS.2.2 hdg))
theorem u_vret (hexec : p.tables.exec = Jvm.exec) (hb : c.code = cc) (hr : meth.sig.returnType = none) (hlocks : meth.locks = false) (hP : va_P g vwCl ws H) (hS : va_S A s.heap H locs) (hc : cells ≤ 1 ∧ slots ≤ 6) (hZ : Z none ws) (hdg : decode cc pc = .ok (.return_, 1)) : W p l e R s m args below meth c H locs cells slots (vx_MQ below (rwQ g Z A) (uX g Zx A) args s 1 6 A) (F0 m pc ls []) :=
  vx_ret (W.widen hc.1 hc.2 (W.vret hexec hb hr (fun t ht _ => ⟨none, ws, hZ, rfl, by rw [ht]; exact hP, hS.F ht⟩) hS.2.2 hdg))
end UR
