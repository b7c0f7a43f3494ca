/-! the law's statics: a call, its answer into a row of one long, the refusal's kind -/
def outC (oa : Nat) (z : Int64) (τ : Nat → ClassId) : Nat × va_E := (oa, .inl (τ 5, 1, .inr (.inl (fun j => if j = 0 then z else 0))))
theorem outF (z x : Int64) : vp_updL (fun j => if j = 0 then z else 0) 0 x = fun j => if j = 0 then x else 0 := by
  funext j
  unfold vp_updL
  by_cases h : j = 0
  · rw [if_pos h, if_pos h]
  · rw [if_neg h, if_neg h]
    exact if_neg h
abbrev nIO : String := "java/lang/IndexOutOfBoundsException"
abbrev nIA : String := "java/lang/IllegalArgumentException"
abbrev nIS : String := "java/lang/IllegalStateException"
def ncL : List (String × String) := [(nIA, nIO), (nIS, nIO), (nIO, nIA), (nIS, nIA), (nIO, nIS), (nIA, nIS)]
/-- no kind of refusal is another's -/
def ZC (U : State) : Prop := ∀ q ∈ ncL, va_Nc q.1 q.2 U
theorem ZC.warm {s U : State} (hW : s.WarmedH U.vm) (h : ZC s) : ZC U := fun q hq => (h q hq).moved hW.alike
theorem ZC.calling {U : State} {f : JFrame} {mk : MethodId} {a : Array Value} (h : ZC U) : ZC (U.calling f mk a) := fun q hq => va_Nc.moved (u := U) (U := U.calling f mk a) (Vm.Alike.refl U.vm) (h q hq)
theorem xB_c : ∀ q ∈ ([nIO, nIA, nIS] : List String), Cond.castable q q ∈ xBad := by decide +kernel
def yW (g : va_G) (τ : Nat → ClassId) (wc : va_W) : State → Prop := fun U => xW g τ wc U ∧ ZC U
theorem yW_blind {g : va_G} {τ : Nat → ClassId} {wc : va_W} {av : List Value} : FrameBlind (va_Pc av (yW g τ wc)) := fun a U f mk h => ⟨h.1, (xW_blind (av := av) a U f mk ⟨h.1, h.2.1⟩).2, h.2.2.calling⟩
/-- a method that answers, whatever its callee throws -/
def qMet (l : Launch) (y : MethodName) (ws : List Cond) (rm : Room) (g : va_G) (τ : Nat → ClassId) (av : List Value) (wc : va_W) (Z : Option Value → va_W → Prop) : Prop := Met l y ws rm (va_Pc av (yW g τ wc)) (rwQ g Z (inW wc)) 1 6 (inW wc)
theorem qMet_of {l : Launch} {y : MethodName} {ws ws' : List Cond} {rm : Room} {cc : ByteArray} {maxL : Nat} {ret : Option FieldType} {hh : List (Nat × Nat × Nat × Nat)} {g : va_G} {τ : Nat → ClassId} {wc : va_W} {av : List Value} {lv : List (Nat × Value)} {Z : Option Value → va_W → Prop} (hy : plainName y.cls = true) (hw : ws = Cond.codeWith y cc maxL ret hh :: ws') (hn : (lg_sl av).length ≤ maxL) (hlv : lv_args 0 av = lv)
    (body : ∀ (p : Program) (e : Env) (s : State) (m : MethodId) (below : List Frame) (meth : Method) (c : Code), p.tables.exec = Jvm.exec → c.code = cc → meth.sig.returnType = ret → c.maxLocals = maxL → (∀ w ∈ ws, w.before av.toArray s = true) → s.vm.findClass y.cls = some m.cls → meth.locks = false → c.exceptionTable.toList = tableOf hh → ∀ (A : Nat → Prop) (H : Heap), va_P g vwCl wc H → va_D A wc → va_S A s.heap H [] → KK g τ s → ZT s → ZU A s s.heap → ZC s → ∀ ls : Array Slot, lv_has ls maxL lv →
      W p l e rm s m av.toArray below meth c H [] 0 0 (MQ below (rwQ g Z A) av.toArray s 1 6 A) (F0 m 0 ls [])) : qMet l y ws rm g τ av wc Z := by
  show Met l y ws rm (va_Pc av (yW g τ wc)) (rwQ g Z (inW wc)) 1 6 (inW wc)
  refine MetFree.of_bodyS (code := cc) (maxLocals := maxL) (ret := ret) hy ?_ ?_
  · intro args s m h hn2
    obtain ⟨m9, meth, c, hn9, h1, h2, h3, h4, -, h5, h6, -⟩ := Cond.codeWith_spec (atoms_spec (ws := ws) h _ (by rw [hw]; exact List.mem_cons_self))
    cases hn2.symm.trans hn9
    exact ⟨meth, c, h1, h2, h3, h4, h5, h6⟩
  · intro p e s m args below meth c s₁ B hml hv _
    obtain ⟨rfl, ⟨⟨hP, hD, hK⟩, hZ, hU⟩, hC⟩ := hv
    have hh0 : s₁.heap = s.heap := by rw [B.state]; rfl
    have htab := vx_table (x := y) B (atoms_spec (ws := ws) B.pre _ (by rw [hw]; exact List.mem_cons_self))
    have hl := lv_entry av (n := maxL) hn
    rw [hlv] at hl
    have K : W p l e (headSpec ws rm).room s m av.toArray below meth c s.heap [] 0 0 (MQ below (rwQ g Z (inW wc)) av.toArray s 1 6 (inW wc)) (entryFrame m av.toArray maxL) := by
      rw [lg_entry_eq]
      exact body p e s m below meth c B.exec B.bytes B.returns hml (atoms_spec (ws := ws) B.pre) (findClass_of_methodNamed B.named) B.notSynchronized htab _ _ hP ⟨hD.1, fun k q hk => ⟨k, q.2, hk⟩⟩ va_S.rf hK hZ hU hC _ hl
    obtain ⟨t, a1, o, b1, b2, b3⟩ := K s₁ hh0 (Stand.of_body B)
    exact ⟨t, o, a1, b1, b2, b3⟩
section QR
variable {p : Program} {l : Launch} {e : Env} {R : Room} {s : State} {m : MethodId} {args : Array Value} {below : List Frame} {meth : Method} {c : Code} {H H0 : Heap} {locs : List Loc} {cells slots : Nat} {Q : State → Prop}
variable {cc : ByteArray} {pc : Nat} {rest : List Value} {ls : Array Slot} {g : va_G} {τ : Nat → ClassId} {ws w1 : va_W} {A A0 : Nat → Prop} {Z : Option Value → va_W → Prop}
theorem q_iret {r : Int32} (hexec : p.tables.exec = Jvm.exec) (hb : c.code = cc) (hr : meth.sig.returnType = some .int) (hlocks : meth.locks = false) (hP : va_P g vwCl ws H) (hS : va_S A s.heap H locs) (hc : cells ≤ 1 ∧ slots ≤ 6) (hZ : Z (some (.int r)) ws) (hdg : decode cc pc = .ok (.ireturn, 1)) : W p l e R s m args below meth c H locs cells slots (MQ below (rwQ g Z A) args s 1 6 A) (F0 m pc ls [.int r]) :=
  W.widen hc.1 hc.2 (W.iret hexec hb hr (fun t ht _ => ⟨_, ws, hZ, rfl, by rw [ht]; exact hP, hS.F ht⟩) hS.2.2 hdg)
theorem q_last {oa : Nat} {z x : Int64} (hx : p.tables.exec = Jvm.exec) (hb : c.code = cc) (hK : KK g τ s) (hP : va_P g vwCl ([outC oa z τ] ++ w1) H) (hD : va_D A0 ([outC oa z τ] ++ w1)) (hS : va_S A0 H0 H locs) (d : decode cc pc = .ok (.lastore, 1))
    (kk : ∀ (H1 : Heap) (locs1 : List Loc), va_P g vwCl ([outC oa x τ] ++ w1) H1 → va_D A0 ([outC oa x τ] ++ w1) → va_S A0 H0 H1 locs1 → W p l e R s m args below meth c H1 locs1 cells slots Q (F0 m (pc + 1) ls rest)) : W p l e R s m args below meth c H locs cells slots Q (F0 m pc ls (.long x :: .int (iI 0) :: .ref oa :: rest)) := by
  refine va_last hx hb hK.1 hP hD hS 0 5 rfl rfl (by show ¬ (iI 0 < 0 ∨ 1 ≤ (iI 0).toNatClampNeg); decide) d (fun H1 locs1 hP hD hS => ?_)
  have e0 : (iI 0).toNatClampNeg = 0 := by decide
  rw [e0, outF] at hP hD
  exact kk H1 locs1 hP hD hS
end QR
/-- the callee answers -/
def LR (Z : Option Value → va_W → Prop) (oa : Nat) (τ : Nat → ClassId) (v : Option Value) (w : va_W) : Prop := ∃ (x : Int32) (w1 : va_W), Z (some (.int x)) w1 ∧ v = some (.int (iI 0)) ∧ w = [outC oa x.toInt64 τ] ++ w1
/-- the callee refuses by E: k -/
def LX (Zx : String → va_W → Prop) (E : String) (k : Int) (oa : Nat) (z0 : Int64) (τ : Nat → ClassId) (v : Option Value) (w : va_W) : Prop := ∃ w1 : va_W, Zx E w1 ∧ v = some (.int (iI k)) ∧ w = [outC oa z0 τ] ++ w1
