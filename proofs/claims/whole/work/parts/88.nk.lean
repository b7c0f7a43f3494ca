/-! constructors: they make cells -/
def KI (g : va_G) (τ : Nat → ClassId) (U : State) : Prop := KK g τ U ∧ va_AO RX8 U ∧ va_AO RX6 U
theorem KI.warm {g : va_G} {τ : Nat → ClassId} {s U : State} (hW : s.WarmedH U.vm) (h : KI g τ s) : KI g τ U := ⟨h.1.warm hW, va_AO.moved hW.alike h.2.1, va_AO.moved hW.alike h.2.2⟩
theorem KI.calling {g : va_G} {τ : Nat → ClassId} {U : State} {f : JFrame} {mk : MethodId} {a : Array Value} (h : KI g τ U) : KI g τ (U.calling f mk a) := ⟨h.1.calling, va_AO.moved (u := U) (U := U.calling f mk a) (Vm.Alike.refl U.vm) h.2.1, va_AO.moved (u := U) (U := U.calling f mk a) (Vm.Alike.refl U.vm) h.2.2⟩
/-- what a constructor may change: its object, and the cells that it makes -/
def niA (b sz : Nat) : Nat → Prop := fun q => q = b ∨ sz ≤ q
def nW (g : va_G) (τ : Nat → ClassId) (sz b : Nat) (e : va_E) : State → Prop := fun U => U.heap.size = sz ∧ va_P g vwCl [(b, e)] U.heap ∧ KI g τ U
theorem nW_blind {g : va_G} {τ : Nat → ClassId} {sz b : Nat} {e : va_E} {av : List Value} : FrameBlind (va_Pc av (nW g τ sz b e)) := fun _ _ _ _ h => ⟨h.1, h.2.1, h.2.2.1, h.2.2.2.calling⟩
def nQ (g : va_G) (Wp : va_W → Prop) (A : Nat → Prop) : Array Value → State → Outcome → State → Prop := fun _ st o t => o = .returned none ∧ (∃ w, Wp w ∧ va_P g vwCl w t.heap ∧ va_D A w) ∧ va_F A st t
/-- a constructor of an object that holds e: the world that it makes -/
def nMet (l : Launch) (y : MethodName) (ws : List Cond) (rm : Room) (g : va_G) (τ : Nat → ClassId) (b : Nat) (e : va_E) (Wp : va_W → Prop) : Prop := ∀ sz : Nat, Met l y ws rm (va_Pc [.ref b] (nW g τ sz b e)) (nQ g Wp (niA b sz)) rm.cells rm.slots (niA b sz)
theorem nMet_of {l : Launch} {y : MethodName} {ws ws' : List Cond} {rm : Room} {cc : ByteArray} {maxL : Nat} {g : va_G} {τ : Nat → ClassId} {b : Nat} {en : va_E} {Wp : va_W → Prop} (hy : plainName y.cls = true) (hw : ws = Cond.code y cc maxL none :: ws') (hn : 1 ≤ maxL)
    (body : ∀ (p : Program) (e : Env) (s : State) (m : MethodId) (below : List Frame) (meth : Method) (c : Code), p.tables.exec = Jvm.exec → c.code = cc → meth.sig.returnType = none → c.maxLocals = maxL → (∀ w ∈ ws, w.before [Value.ref b].toArray s = true) → s.vm.findClass y.cls = some m.cls → meth.locks = false → meth.name = y.name → ∀ (A : Nat → Prop) (H : Heap), va_P g vwCl [(b, en)] H → va_D A [(b, en)] → va_S A s.heap H [] → (∀ q : Nat, s.heap.size ≤ q → A q) → KI g τ s → ∀ ls : Array Slot, lv_has ls maxL [(0, .ref b)] →
      W p l e rm s m [Value.ref b].toArray below meth c H [] 0 0 (MQ below (nQ g Wp A) [Value.ref b].toArray s rm.cells rm.slots A) (F0 m 0 ls [])) : nMet l y ws rm g τ b en Wp := by
  intro sz
  refine Met.ofW (cc := cc) (maxL := maxL) (ret := none) hy hw ?_
  intro p e s m args below meth c s₁ B hml hv
  obtain ⟨rfl, hsz, hP, hK⟩ := hv
  subst hsz
  rw [lg_entry_eq]
  have hl := lv_entry [Value.ref b] (n := maxL) (by show 1 ≤ maxL; exact hn)
  refine body p e s m below meth c B.exec B.bytes B.returns hml (atoms_spec (ws := ws) B.pre) (findClass_of_methodNamed B.named) B.notSynchronized (name_of_methodNamed B.named B.method).1 _ _ hP ⟨fun i j x z hi hj _ => ?_, fun k q hk => Or.inl ?_⟩ va_S.rf (fun q h => Or.inr h) hK _ hl
  · have h1 := (List.getElem?_eq_some_iff.mp hi).1
    have h2 := (List.getElem?_eq_some_iff.mp hj).1
    simp only [List.length_cons, List.length_nil] at h1 h2
    omega
  · have h1 := (List.getElem?_eq_some_iff.mp hk).1
    simp only [List.length_cons, List.length_nil] at h1
    rw [show k = 0 by omega] at hk
    cases hk
    rfl
theorem RA_eq {U : State} {a b : ClassId} {ty : FieldType} (h1 : va_RA U a ty) (h2 : va_RA U b ty) : a = b := by
  cases ty with
  | object C =>
    obtain ⟨_, _, _, _, _, e1⟩ := h1
    obtain ⟨_, _, _, _, _, e2⟩ := h2
    exact Option.some.inj (e1.symm.trans e2)
  | _ => exact Option.some.inj (Eq.trans (Eq.symm h1) h2)
theorem n_join {A0 : Nat → Prop} {D : va_G} {cl : List vw_C} {ws w1 : va_W} {b : Nat} {e : va_E} {H H1 : Heap} (hP : va_P D cl (ws ++ [(b, e)]) H) (hD : va_D A0 (ws ++ [(b, e)])) (hk : ∀ q : Nat, q < H.size → ¬ niA b H.size q → H1[q]? = H[q]?) (hF : ∀ q, niA b H.size q → A0 q) (hP1 : va_P D cl w1 H1) (hD1 : va_D (niA b H.size) w1) : va_P D cl (ws ++ w1) H1 ∧ va_D A0 (ws ++ w1) := by
  have apart : ∀ (k : Nat) (q : Nat × va_E), ws[k]? = some q → q.1 < H.size ∧ ¬ niA b H.size q.1 := by
    intro k q hq
    have hlt := (List.getElem?_eq_some_iff.mp hq).1
    have hq2 : (ws ++ [(b, e)])[k]? = some q := by rw [List.getElem?_append_left hlt]; exact hq
    have hl := (hP k q hq2).lt
    refine ⟨hl, fun h => ?_⟩
    rcases h with h | h
    · have hb2 : (ws ++ [(b, e)])[ws.length]? = some (b, e) := by rw [List.getElem?_append_right (Nat.le_refl _), Nat.sub_self]; rfl
      have := hD.1 k ws.length q (b, e) hq2 hb2 h
      omega
    · omega
  refine ⟨va_P.app (fun k q hq => ?_) hP1, va_D.app hD.left (hD1.weaken (fun k q _ h => hF q.1 h)) (fun i j x y hx hy hxy => ?_)⟩
  · have hlt := (List.getElem?_eq_some_iff.mp hq).1
    have hq2 : (ws ++ [(b, e)])[k]? = some q := by rw [List.getElem?_append_left hlt]; exact hq
    obtain ⟨g1, g2⟩ := apart k q hq
    exact (hP k q hq2).kept (hk q.1 g1 g2)
  · exact (apart i x hx).2 (by rw [hxy]; exact hD1.2 j y hy)
section NI
variable {p : Program} {l : Launch} {e : Env} {R : Room} {s : State} {m : MethodId} {args : Array Value} {below : List Frame} {meth : Method} {c : Code} {H H0 : Heap} {locs : List Loc} {cells slots : Nat} {Q : State → Prop}
variable {y : MethodName} {bytes cc : ByteArray} {maxL nL n index pc : Nat} {wsy wsy' : List Cond} {rm : Room} {Ts : List Cond} {own : String} {b : Addr} {rest : List Value} {ls : Array Slot} {g : va_G} {τ : Nat → ClassId} {ws : va_W} {lv : List (Nat × Value)} {A0 : Nat → Prop} {Wp : va_W → Prop} {en : va_E} {a : Array Value}
theorem n_go {st0 : List Value} {mc ms : Nat} (hr : va_Run p l e R s m args below meth c H locs cells slots mc ms (F0 m pc ls st0) rest (nQ g Wp (niA b H.size) a) (niA b H.size)) (hP : va_P g vwCl (ws ++ [(b, en)]) H) (hD : va_D A0 (ws ++ [(b, en)])) (hS : va_S A0 H0 H locs) (hA : ∀ q : Nat, H0.size ≤ q → A0 q)
    (kk : ∀ (w1 : va_W) (H1 : Heap) (locs1 : List Loc), Wp w1 → va_P g vwCl (ws ++ w1) H1 → va_D A0 (ws ++ w1) → va_S A0 H0 H1 locs1 → W p l e R s m args below meth c H1 locs1 (cells + mc) (slots + ms) Q (F0 m (pc + 3) ls rest)) : W p l e R s m args below meth c H locs cells slots Q (F0 m pc ls st0) := by
  have hF : ∀ q, niA b H.size q → A0 q := by
    intro q h
    rcases h with h | h
    · subst h
      exact hD.2 ws.length (_, en) (by rw [List.getElem?_append_right (Nat.le_refl _), Nat.sub_self]; rfl)
    · exact hA q (Nat.le_trans hS.1 h)
  intro T hT X
  obtain ⟨v, st₀, t, T', L, h0, X', hL, e1, e2, ⟨hv, ⟨w1, hw, hP1, hD1⟩, hz, hk⟩, st⟩ := hr T hT X
  cases hv
  rw [h0] at hz hk
  obtain ⟨b1, b2⟩ := n_join hP hD hk hF hP1 hD1
  obtain ⟨t2, c1, c2⟩ := kk w1 T'.heap (locs ++ L) hw (by rw [e1]; exact b1) b2
    ⟨Nat.le_trans hS.1 (by rw [e1]; exact hz), fun q h1 h2 => by rw [e1, hk q (Nat.lt_of_lt_of_le h1 hS.1) (fun z => h2 (hF q z))]; exact hS.2.1 q h1 h2, fun q hq => by
      rcases List.mem_append.mp hq with h | h
      · exact hS.2.2 q h
      · exact hF _ (hL q h)⟩ T' rfl X'
  exact ⟨t2, st t2 c1, c2⟩
theorem n_last : va_P g vwCl (ws ++ [(b, en)]) H → va_P g vwCl [(b, en)] H := fun h => va_right h
/-- a constructor is called -/
theorem n_I (S : CallFix p m c cc nL s args Ts own) (hM : nMet l y wsy rm g τ b en Wp) (cw : CallB R s args own index y bytes maxL none wsy rm rm.cells rm.slots 0 ∧ y.name = "<init>" ∧ (Cond.instanceMethod y).before args s = true) (hK : KI g τ s) (hP : va_P g vwCl (ws ++ [(b, en)]) H) (hD : va_D A0 (ws ++ [(b, en)])) (hS : va_S A0 H0 H locs) (hA : ∀ q : Nat, H0.size ≤ q → A0 q) (hl : lv_has ls nL lv) {st0 : List Value} (hst : st0 = .ref b :: rest) (hcat : (rest.map fun v => v.category).sum ≤ 8) (hdg : decode cc pc = .ok (.invokespecial index, 3)) (hc : cells + rm.cells ≤ R.cells ∧ slots + rm.slots ≤ R.slots)
    (kk : ∀ (w1 : va_W) (H1 : Heap) (locs1 : List Loc), Wp w1 → va_P g vwCl (ws ++ w1) H1 → va_D A0 (ws ++ w1) → va_S A0 H0 H1 locs1 → W p l e R s m args below meth c H1 locs1 (cells + rm.cells) (slots + rm.slots) Q (F0 m (pc + 3) ls rest)) : W p l e R s m args below meth c H locs cells slots Q (F0 m pc ls st0) := by
  subst hst
  have hPb : va_P g vwCl [(b, en)] H := va_right hP
  exact n_go (va_runI (As := []) (rest := rest) S (hM H.size) cw ⟨nW_blind, fun U hU hW => ⟨rfl, by rw [hU], by rw [hU]; exact hPb, hK.warm hW⟩⟩ rfl rfl hl.1 rfl (lv_room hcat) hdg hc) hP hD hS hA kk
/-- a new array of zeros -/
theorem n_arr {cl : Code} {atype : ArrayType} {ty : FieldType} (t0 : Nat) {N : Nat} (hexec : p.tables.exec = Jvm.exec) (hb : c.code = cc) (harr : (Cond.arrayClass ty).before args s = true) (hty : newarray.typeOf atype = ty) (ht : (tyL τ)[t0]? = some (τ t0, ty)) (hel : defaultValue ty = .int (iI 0)) (hK : KI g τ s) (hP : va_P g vwCl ws H) (hD : va_D A0 ws) (hS : va_S A0 H0 H locs) (hA : ∀ q : Nat, H0.size ≤ q → A0 q)
    {z : Int32} (hn : ¬ z < 0) (hN : z.toNatClampNeg = N) (hbytes : N * componentBytes ty ≤ 536870912) (hcells : cells + 1 ≤ R.cells) (hslots : slots + N ≤ R.slots) (hdg : decode cc pc = .ok (.newarray atype, 2))
    (kk : ∀ (q : Nat) (H1 : Heap), va_P g vwCl (ws ++ [arC q (τ t0) N (fun _ => 0)]) H1 → va_D A0 (ws ++ [arC q (τ t0) N (fun _ => 0)]) → va_S A0 H0 H1 locs → W p l e R s m args below meth c H1 locs (cells + 1) (slots + N) Q (F0 m (pc + 2) ls (.ref q :: rest))) : W p l e R s m args below meth c H locs cells slots Q (F0 m pc ls (.int z :: rest)) := by
  refine va_newa (a0 := (N, .inl (fun _ => iI 0))) hexec hb (by rw [hty]; exact harr) hty hK.1.1 hP hD hS hA (fun cA => ?_) hn hN hbytes hcells hslots hdg (fun q cA H1 hK1 hP1 hD1 hS1 => ?_)
  · rw [hel, vp_cell_i]
  · have e1 := (hK1.2 (tyL τ).length (cA, ty) (by rw [List.getElem?_append_right (Nat.le_refl _), Nat.sub_self]; rfl)).2
    have e2 := (hK.1.1.2 t0 _ ht).2
    have e3 : cA = τ t0 := RA_eq e1 e2
    subst e3
    exact kk q H1 hP1 hD1 hS1
/-- a new array of nulls -/
theorem n_oarr {C : String} (t0 : Nat) {N : Nat} (hexec : p.tables.exec = Jvm.exec) (hb : c.code = cc) (hown : s.vm.findClass own = some m.cls) (hclink : (Cond.classLink own index C).before args s = true) (hover : va_AO C s) (ht : (tyL τ)[t0]? = some (τ t0, .object C)) (hK : KI g τ s) (hP : va_P g vwCl ws H) (hD : va_D A0 ws) (hS : va_S A0 H0 H locs) (hA : ∀ q : Nat, H0.size ≤ q → A0 q)
    {z : Int32} (hn : ¬ z < 0) (hN : z.toNatClampNeg = N) (hbytes : N * 4 ≤ 536870912) (hcells : cells + 1 ≤ R.cells) (hslots : slots + N ≤ R.slots) (hdg : decode cc pc = .ok (.anewarray index, 3))
    (kk : ∀ (q : Nat) (H1 : Heap), va_P g vwCl (ws ++ [(q, .inl (τ t0, N, .inr (.inr (.inr (.inr (fun _ => none))))))]) H1 → va_D A0 (ws ++ [(q, .inl (τ t0, N, .inr (.inr (.inr (.inr (fun _ => none))))))]) → va_S A0 H0 H1 locs → W p l e R s m args below meth c H1 locs (cells + 1) (slots + N) Q (F0 m (pc + 3) ls (.ref q :: rest))) : W p l e R s m args below meth c H locs cells slots Q (F0 m pc ls (.int z :: rest)) := by
  refine va_newq hexec hb hown hclink hover hK.1.1 hP hD hS hA hn hN hbytes hcells hslots hdg (fun q cA H1 hK1 hP1 hD1 hS1 => ?_)
  have e1 := (hK1.2 (tyL τ).length (cA, .object C) (by rw [List.getElem?_append_right (Nat.le_refl _), Nat.sub_self]; rfl)).2
  have e2 := (hK.1.1.2 t0 _ ht).2
  have e3 : cA = τ t0 := RA_eq e1 e2
  subst e3
  exact kk q H1 hP1 hD1 hS1
theorem n_vret (hexec : p.tables.exec = Jvm.exec) (hb : c.code = cc) (hr : meth.sig.returnType = none) (hlocks : meth.locks = false) (hP : va_P g vwCl ws H) (hD : va_D A0 ws) (hS : va_S A0 s.heap H locs) (mc ms : Nat) (hc : cells ≤ mc ∧ slots ≤ ms) (hZ : Wp ws) (hdg : decode cc pc = .ok (.return_, 1)) : W p l e R s m args below meth c H locs cells slots (MQ below (nQ g Wp A0) args s mc ms A0) (F0 m pc ls []) :=
  W.widen hc.1 hc.2 (W.vret hexec hb hr (fun t ht _ => ⟨rfl, ⟨ws, hZ, by rw [ht]; exact hP, hD⟩, hS.F ht⟩) hS.2.2 hdg)
end NI
theorem nf_X0 : ∀ j, j < 6 → defaultValue (tyX0 j) = vp_V [.int (iI 0), .null, .null, .null, .null, .null] j := by
  intro j hj
  rcases j with _ | _ | _ | _ | _ | _ | j <;> first | rfl | omega
theorem nf_X1 : ∀ j, j < 6 → defaultValue (tyX1 j) = vp_V [.null, .null, .null, .null, .null, .null] j := by
  intro j hj
  rcases j with _ | _ | _ | _ | _ | _ | j <;> first | rfl | omega
theorem nf_X2 : ∀ j, j < 3 → defaultValue (tyX2 j) = vp_V [.int (iI 0), .int (iI 0), .null] j := by
  intro j hj
  rcases j with _ | _ | _ | j <;> first | rfl | omega
theorem nf_X3 : ∀ j, j < 3 → defaultValue (tyX3 j) = vp_V [.int (iI 0), .null, .null] j := by
  intro j hj
  rcases j with _ | _ | _ | j <;> first | rfl | omega
theorem nf_X4 : ∀ j, j < 7 → defaultValue (tyX4 j) = vp_V [.int (iI 0), .null, .null, .null, .null, .null, .null] j := by
  intro j hj
  rcases j with _ | _ | _ | _ | _ | _ | _ | j <;> first | rfl | omega
theorem nf_X5 : ∀ j, j < 2 → defaultValue (tyX5 j) = vp_V [.null, .null] j := by
  intro j hj
  rcases j with _ | _ | j <;> first | rfl | omega
theorem nf_X6 : ∀ j, j < 5 → defaultValue (tyX6 j) = vp_V [.null, .null, .null, .null, .null] j := by
  intro j hj
  rcases j with _ | _ | _ | _ | _ | j <;> first | rfl | omega
theorem nf_X7 : ∀ j, j < 12 → defaultValue (tyX7 j) = vp_V [.int (iI 0), .null, .int (iI 0), .int (iI 0), .int (iI 0), .int (iI 0), .int (iI 0), .int (iI 0), .int (iI 0), .int (iI 0), .int (iI 0), .int (iI 0)] j := by
  intro j hj
  rcases j with _ | _ | _ | _ | _ | _ | _ | _ | _ | _ | _ | _ | j <;> first | rfl | omega
theorem nf_X8 : ∀ j, j < 3 → defaultValue (tyX8 j) = vp_V [.int (iI 0), .int (iI 0), .int (iI 0)] j := by
  intro j hj
  rcases j with _ | _ | _ | j <;> first | rfl | omega
theorem nf_X9 : ∀ j, j < 7 → defaultValue (tyX9 j) = vp_V [.null, .null, .null, .null, .null, .null, .null] j := by
  intro j hj
  rcases j with _ | _ | _ | _ | _ | _ | _ | j <;> first | rfl | omega
theorem nf_X10 : ∀ j, j < 18 → defaultValue (tyX10 j) = vp_V [.int (iI 0), .null, .null, .null, .null, .int (iI 0), .null, .null, .null, .int (iI 0), .int (iI 0), .int (iI 0), .int (iI 0), .int (iI 0), .int (iI 0), .int (iI 0), .int (iI 0), .null] j := by
  intro j hj
  rcases j with _ | _ | _ | _ | _ | _ | _ | _ | _ | _ | _ | _ | _ | _ | _ | _ | _ | _ | j <;> first | rfl | omega
