/-! contracts that make nothing: their words, their start, their calls -/
def tyL (τ : Nat → ClassId) : List (ClassId × FieldType) := [(τ 0, .int), (τ 1, .boolean), (τ 2, .char), (τ 3, .object RX8), (τ 4, .object RX6), (τ 5, .long)]
def nwM : List (String × Nat × MethodName) := [(RX9, 9, yX7_init), (RX1, 30, yX8_init), (RX6, 11, yX3_init), (RX6, 20, yX0_init), (RX6, 27, yX4_init), (RX6, 34, yX5_init), (RX6, 116, yX9_isYear), (RX6, 151, yX9_isMaterial), (RX6, 154, yX9_isBubbles), (RX6, 176, yX9_isCharter), (RX6, 183, yX9_isShelf), (RX1, 165, yX9_isShelf)]
def NWs (U : State) : Prop := va_Nw (.fieldLinkNest RX1 118 RX8 "spans" "I" RX9) U ∧ ∀ q ∈ nwM, va_Nw (.methodLinkNest q.1 q.2.1 q.2.2 RX9) U
def KK (g : va_G) (τ : Nat → ClassId) (U : State) : Prop := va_K g vwCl (tyL τ) U ∧ NWs U
theorem KK.warm {g : va_G} {τ : Nat → ClassId} {s U : State} (hW : s.WarmedH U.vm) (h : KK g τ s) : KK g τ U := ⟨va_K.moved hW.alike h.1, va_Nw.warmF hW h.2.1, fun q hq => va_Nw.warmM hW (h.2.2 q hq)⟩
theorem KK.calling {g : va_G} {τ : Nat → ClassId} {U : State} {f : JFrame} {mk : MethodId} {a : Array Value} (h : KK g τ U) : KK g τ (U.calling f mk a) := ⟨va_K.moved (u := U) (U := U.calling f mk a) (Vm.Alike.refl U.vm) h.1, va_Nw.same rfl (u := U) (U := U.calling f mk a) rfl h.2.1, fun q hq => va_Nw.same rfl (u := U) (U := U.calling f mk a) rfl (h.2.2 q hq)⟩
def nof : Addr → Prop := fun _ => False
def roW (g : va_G) (τ : Nat → ClassId) (wc : va_W) : State → Prop := fun U => va_P g vwCl wc U.heap ∧ KK g τ U
def roQ (v : Option Value) : Array Value → State → Outcome → State → Prop := fun _ st o t => o = .returned v ∧ t.heap = st.heap
def inW (wc : va_W) : Nat → Prop := fun q => ∃ (k : Nat) (e : va_E), wc[k]? = some (q, e)
def rwW (g : va_G) (τ : Nat → ClassId) (wc : va_W) : State → Prop := fun U => va_P g vwCl wc U.heap ∧ va_D (fun _ => True) wc ∧ KK g τ U
def rwQ (g : va_G) (Z : Option Value → va_W → Prop) (A : Nat → Prop) : Array Value → State → Outcome → State → Prop := fun _ st o t => ∃ (v : Option Value) (w1 : va_W), Z v w1 ∧ o = .returned v ∧ va_P g vwCl w1 t.heap ∧ va_F A st t
theorem roW_blind {g : va_G} {τ : Nat → ClassId} {wc : va_W} {av : List Value} : FrameBlind (va_Pc av (roW g τ wc)) := fun _ _ _ _ h => ⟨h.1, h.2.1, h.2.2.calling⟩
theorem rwW_blind {g : va_G} {τ : Nat → ClassId} {wc : va_W} {av : List Value} : FrameBlind (va_Pc av (rwW g τ wc)) := fun _ _ _ _ h => ⟨h.1, h.2.1, h.2.2.1, h.2.2.2.calling⟩
theorem roMet {l : Launch} {y : MethodName} {ws ws' : List Cond} {rm : Room} {cc : ByteArray} {maxL : Nat} {ret : Option FieldType} {g : va_G} {τ : Nat → ClassId} {wc : va_W} {av : List Value} {lv : List (Nat × Value)} {v : Option Value} (hy : plainName y.cls = true) (hw : ws = Cond.code y cc maxL ret :: ws') (hn : (lg_sl av).length ≤ maxL) (hlv : lv_args 0 av = lv)
    (body : ∀ (p : Program) (e : Env) (s : State) (m : MethodId) (below : List Frame) (meth : Method) (c : Code), p.tables.exec = Jvm.exec → c.code = cc → meth.sig.returnType = ret → c.maxLocals = maxL → (∀ w ∈ ws, w.before av.toArray s = true) → s.vm.findClass y.cls = some m.cls → meth.locks = false → va_P g vwCl wc s.heap → KK g τ s → ∀ ls : Array Slot, lv_has ls maxL lv →
      W p l e rm s m av.toArray below meth c s.heap [] 0 0 (MQ below (roQ v) av.toArray s 0 0 nof) (F0 m 0 ls [])) : Met l y ws rm (va_Pc av (roW g τ wc)) (roQ v) 0 0 nof := by
  refine Met.ofW (cc := cc) (maxL := maxL) (ret := ret) hy hw ?_
  intro p e s m args below meth c s₁ B hml hv
  obtain ⟨rfl, hP, hK⟩ := hv
  rw [lg_entry_eq]
  have hl := lv_entry av (n := maxL) hn
  rw [hlv] at hl
  exact body p e s m below meth c B.exec B.bytes B.returns hml (atoms_spec (ws := ws) B.pre) (findClass_of_methodNamed B.named) B.notSynchronized hP hK _ hl
theorem rwMet {l : Launch} {y : MethodName} {ws ws' : List Cond} {rm : Room} {cc : ByteArray} {maxL : Nat} {ret : Option FieldType} {g : va_G} {τ : Nat → ClassId} {wc : va_W} {av : List Value} {lv : List (Nat × Value)} {Z : Option Value → va_W → Prop} (hy : plainName y.cls = true) (hw : ws = Cond.code y cc maxL ret :: ws') (hn : (lg_sl av).length ≤ maxL) (hlv : lv_args 0 av = lv)
    (body : ∀ (p : Program) (e : Env) (s : State) (m : MethodId) (below : List Frame) (meth : Method) (c : Code), p.tables.exec = Jvm.exec → c.code = cc → meth.sig.returnType = ret → c.maxLocals = maxL → (∀ w ∈ ws, w.before av.toArray s = true) → s.vm.findClass y.cls = some m.cls → meth.locks = false → ∀ (A : Nat → Prop) (H : Heap), va_P g vwCl wc H → va_D A wc → va_S A s.heap H [] → KK g τ s → ∀ ls : Array Slot, lv_has ls maxL lv →
      W p l e rm s m av.toArray below meth c H [] 0 0 (MQ below (rwQ g Z A) av.toArray s 0 0 A) (F0 m 0 ls [])) : Met l y ws rm (va_Pc av (rwW g τ wc)) (rwQ g Z (inW wc)) 0 0 (inW wc) := by
  refine Met.ofW (cc := cc) (maxL := maxL) (ret := ret) hy hw ?_
  intro p e s m args below meth c s₁ B hml hv
  obtain ⟨rfl, hP, hD, hK⟩ := hv
  rw [lg_entry_eq]
  have hl := lv_entry av (n := maxL) hn
  rw [hlv] at hl
  exact body p e s m below meth c B.exec B.bytes B.returns hml (atoms_spec (ws := ws) B.pre) (findClass_of_methodNamed B.named) B.notSynchronized _ _ hP ⟨hD.1, fun k q hk => ⟨k, q.2, hk⟩⟩ va_S.rf hK _ hl
def va_repl (ws : va_W) (l : List (Nat × (Nat × va_E))) : va_W := l.foldl (fun w q => w.set q.1 q.2) ws
section KT
variable {p : Program} {l : Launch} {e : Env} {R : Room} {s : State} {m : MethodId} {args : Array Value} {below : List Frame} {meth : Method} {c : Code} {H H0 : Heap} {locs : List Loc} {cells slots : Nat} {Q : State → Prop}
variable {y : MethodName} {bytes cc : ByteArray} {maxL nL n index pc : Nat} {ret : Option FieldType} {ws ws' : List Cond} {rm : Room} {Ts : List Cond} {own C : String} {b : Addr} {As rest : List Value} {ls : Array Slot} {g : va_G} {τ : Nat → ClassId} {wc w1 wo wo' : va_W} {v : Option Value} {lv : List (Nat × Value)} {A0 : Nat → Prop} {a : Array Value}
theorem ro_call {st0 : List Value} (hr : va_Run p l e R s m args below meth c H locs cells slots 0 0 (F0 m pc ls st0) rest (roQ v a) nof)
    (kk : W p l e R s m args below meth c H locs cells slots Q (F0 m (pc + 3) ls (v.toList ++ rest))) : W p l e R s m args below meth c H locs cells slots Q (F0 m pc ls st0) := by
  intro T hT X
  obtain ⟨v', st₀, t, T', L, h0, X', hL, e1, e2, ⟨hv, hh⟩, st⟩ := hr T hT X
  cases hv
  have hL0 : L = [] := by
    cases L with
    | nil => rfl
    | cons q _ => exact (hL q List.mem_cons_self).elim
  subst hL0
  rw [List.append_nil] at X'
  obtain ⟨t2, a1, b1⟩ := kk T' (by rw [e1, hh, h0]) X'
  exact ⟨t2, st t2 a1, b1⟩
theorem rw_call {Z : Option Value → va_W → Prop} {A : Nat → Prop} {st0 : List Value} (hr : va_Run p l e R s m args below meth c H locs cells slots 0 0 (F0 m pc ls st0) rest (rwQ g Z A a) A) (hS : va_S A0 H0 H locs) (hA : ∀ q, A q → A0 q)
    (kk : ∀ (v : Option Value) (w1 : va_W) (H1 : Heap) (locs1 : List Loc), Z v w1 → va_P g vwCl w1 H1 → H.size ≤ H1.size → (∀ q : Nat, q < H.size → ¬ A q → H1[q]? = H[q]?) → va_S A0 H0 H1 locs1 → W p l e R s m args below meth c H1 locs1 cells slots Q (F0 m (pc + 3) ls (v.toList ++ rest))) : W p l e R s m args below meth c H locs cells slots Q (F0 m pc ls st0) := by
  intro T hT X
  obtain ⟨v', st₀, t, T', L, h0, X', hL, e1, e2, ⟨v, w1, hZ, hv, hP, hz, hk⟩, st⟩ := hr T hT X
  cases hv
  rw [h0] at hz hk
  obtain ⟨t2, a1, b1⟩ := kk v' w1 T'.heap (locs ++ L) hZ (by rw [e1]; exact hP) (by rw [e1]; exact hz) (fun q h1 h2 => by rw [e1]; exact hk q h1 h2)
    ⟨Nat.le_trans hS.1 (by rw [e1]; exact hz), fun q h1 h2 => by rw [e1, hk q (Nat.lt_of_lt_of_le h1 hS.1) (fun z => h2 (hA q z))]; exact hS.2.1 q h1 h2, fun q hq => by
      rcases List.mem_append.mp hq with h | h
      · exact hS.2.2 q h
      · exact hA _ (hL q h)⟩ T' rfl X'
  exact ⟨t2, st t2 a1, b1⟩
end KT
theorem repl_len : ∀ (l : List (Nat × (Nat × va_E))) (ws : va_W), (va_repl ws l).length = ws.length
  | [], _ => rfl
  | x :: l, ws => by
    show (va_repl (ws.set x.1 x.2) l).length = _
    rw [repl_len l, List.length_set]
/-- behind a call, the caller's world with the callee's cells in it, at their places -/
theorem repl_P {D : va_G} {cl : List vw_C} {H1 : Heap} : ∀ (l : List (Nat × (Nat × va_E))) (ws : va_W), (∀ (k : Nat) (q : Nat × va_E), ws[k]? = some q → (∀ x ∈ l, x.1 ≠ k) → va_at D cl q H1) → (∀ x ∈ l, va_at D cl x.2 H1) → va_P D cl (va_repl ws l) H1
  | [], ws, h, _ => fun k q hk => h k q hk (fun x hx => absurd hx List.not_mem_nil)
  | x :: l, ws, h, h2 => by
    refine repl_P l (ws.set x.1 x.2) (fun k q hk hn => ?_) (fun z hz => h2 z (List.mem_cons_of_mem _ hz))
    by_cases hkx : x.1 = k
    · rw [← hkx] at hk
      have hlt : x.1 < (ws.set x.1 x.2).length := (List.getElem?_eq_some_iff.mp hk).1
      rw [List.length_set] at hlt
      rw [List.getElem?_set_self hlt] at hk
      cases hk
      exact h2 x List.mem_cons_self
    · rw [List.getElem?_set_ne hkx] at hk
      refine h k q hk (fun z hz => ?_)
      rcases List.mem_cons.mp hz with rfl | hz
      · exact hkx
      · exact hn z hz
theorem repl_fst : ∀ (l : List (Nat × (Nat × va_E))) (ws : va_W), (∀ x ∈ l, ∃ e, ws[x.1]? = some (x.2.1, e)) → (va_repl ws l).map Prod.fst = ws.map Prod.fst
  | [], _, _ => rfl
  | x :: l, ws, h => by
    have h1 : (ws.set x.1 x.2).map Prod.fst = ws.map Prod.fst := by
      obtain ⟨e, he⟩ := h x List.mem_cons_self
      refine List.ext_getElem? fun k => ?_
      rw [List.getElem?_map, List.getElem?_map]
      by_cases hk : x.1 = k
      · subst hk
        have hlt := (List.getElem?_eq_some_iff.mp he).1
        rw [List.getElem?_set_self hlt, he]
        rfl
      · rw [List.getElem?_set_ne hk]
    show (va_repl (ws.set x.1 x.2) l).map Prod.fst = _
    rw [repl_fst l (ws.set x.1 x.2) (fun z hz => ?_), h1]
    obtain ⟨e, he⟩ := h z (List.mem_cons_of_mem _ hz)
    have h2 := congrArg (fun w => w[z.1]?) h1
    simp only [List.getElem?_map, he, Option.map_some] at h2
    cases hz2 : (ws.set x.1 x.2)[z.1]? with
    | none => rw [hz2] at h2; cases h2
    | some r =>
      rw [hz2] at h2
      simp only [Option.map_some, Option.some.injEq] at h2
      exact ⟨r.2, by rw [← h2]⟩
theorem va_D.fst {A : Nat → Prop} {ws wo : va_W} (h : va_D A ws) (e : wo.map Prod.fst = ws.map Prod.fst) : va_D A wo := by
  have key : ∀ (k : Nat) (q : Nat × va_E), wo[k]? = some q → ∃ q0, ws[k]? = some q0 ∧ q0.1 = q.1 := by
    intro k q hk
    have h2 := congrArg (fun w => w[k]?) e
    simp only [List.getElem?_map, hk, Option.map_some] at h2
    cases hz2 : ws[k]? with
    | none => rw [hz2] at h2; cases h2
    | some r => rw [hz2] at h2; simp only [Option.map_some, Option.some.injEq] at h2; exact ⟨r, rfl, h2.symm⟩
  refine ⟨fun i j x z hi hj hxy => ?_, fun k q hk => ?_⟩
  · obtain ⟨x0, a1, a2⟩ := key i x hi
    obtain ⟨z0, a3, a4⟩ := key j z hj
    exact h.1 i j x0 z0 a1 a3 (by rw [a2, a4, hxy])
  · obtain ⟨q0, a1, a2⟩ := key k q hk
    rw [← a2]; exact h.2 k q0 a1
theorem cut_at {ws wc : va_W} {is : List Nat} (hC : is.map (fun i => ws[i]?) = wc.map some) (j : Nat) : (∀ q, wc[j]? = some q → ∃ i, is[j]? = some i ∧ ws[i]? = some q) ∧ (∀ i, is[j]? = some i → ∃ q, wc[j]? = some q ∧ ws[i]? = some q) := by
  have h := congrArg (fun w => w[j]?) hC
  simp only [List.getElem?_map] at h
  constructor
  · intro q hq
    rw [hq] at h
    cases hi : is[j]? with
    | none => rw [hi] at h; cases h
    | some i => rw [hi] at h; exact ⟨i, rfl, Option.some.inj h⟩
  · intro i hi
    rw [hi] at h
    cases hq : wc[j]? with
    | none => rw [hq] at h; cases h
    | some q => rw [hq] at h; exact ⟨q, rfl, Option.some.inj h⟩
theorem back_P {D : va_G} {cl : List vw_C} {A0 : Nat → Prop} {ws wc w1 : va_W} {H H1 : Heap} {is : List Nat} (hP : va_P D cl ws H) (hD : va_D A0 ws) (hC : is.map (fun i => ws[i]?) = wc.map some) (hf : w1.map Prod.fst = wc.map Prod.fst) (hk : ∀ q : Nat, q < H.size → ¬ inW wc q → H1[q]? = H[q]?) (hP1 : va_P D cl w1 H1) : va_P D cl (va_repl ws (is.zip w1)) H1 ∧ va_D A0 (va_repl ws (is.zip w1)) := by
  have hlen : ∀ (j : Nat) (q : Nat × va_E), wc[j]? = some q → ∃ z, w1[j]? = some z ∧ z.1 = q.1 := by
    intro j q hq
    have h := congrArg (fun w => w[j]?) hf
    simp only [List.getElem?_map, hq, Option.map_some] at h
    cases hz : w1[j]? with
    | none => rw [hz] at h; cases h
    | some z => rw [hz] at h; simp only [Option.map_some, Option.some.injEq] at h; exact ⟨z, rfl, h⟩
  have hz : ∀ x ∈ is.zip w1, ∃ j : Nat, is[j]? = some x.1 ∧ w1[j]? = some x.2 := by
    intro x hx
    obtain ⟨j, hj⟩ := List.getElem?_of_mem hx
    exact ⟨j, List.getElem?_zip_eq_some.mp hj⟩
  refine ⟨repl_P _ _ (fun k q hkq hn => ?_) (fun x hx => ?_), hD.fst (repl_fst _ _ fun x hx => ?_)⟩
  · refine (hP k q hkq).kept (hk q.1 (hP k q hkq).lt ?_)
    rintro ⟨j, e, hj⟩
    obtain ⟨i, hi, hwi⟩ := (cut_at hC j).1 _ hj
    have hik : i = k := hD.1 i k (q.1, e) q hwi hkq rfl
    obtain ⟨z, hz1, -⟩ := hlen j _ hj
    have hm : (i, z) ∈ is.zip w1 := List.mem_of_getElem? (List.getElem?_zip_eq_some.mpr ⟨hi, hz1⟩)
    exact hn _ hm hik
  · obtain ⟨j, -, hj⟩ := hz x hx
    exact hP1 j _ hj
  · obtain ⟨j, h1, h2⟩ := hz x hx
    obtain ⟨q, hq, hw⟩ := (cut_at hC j).2 _ h1
    obtain ⟨z, hz1, hz2⟩ := hlen j q hq
    rw [h2] at hz1
    cases hz1
    exact ⟨q.2, by rw [hw, hz2]⟩
theorem inW_A {A0 : Nat → Prop} {ws wc : va_W} {is : List Nat} (hD : va_D A0 ws) (hC : is.map (fun i => ws[i]?) = wc.map some) : ∀ q, inW wc q → A0 q := by
  rintro q ⟨j, e, hj⟩
  obtain ⟨i, -, hw⟩ := (cut_at hC j).1 _ hj
  exact hD.2 i _ hw
theorem cut_P {D : va_G} {cl : List vw_C} {ws wc : va_W} {H : Heap} {is : List Nat} (hP : va_P D cl ws H) (hC : is.map (fun i => ws[i]?) = wc.map some) : va_P D cl wc H := by
  intro j q hj
  obtain ⟨i, -, hw⟩ := (cut_at hC j).1 _ hj
  exact hP i q hw
section KT2
variable {p : Program} {l : Launch} {e : Env} {R : Room} {s : State} {m : MethodId} {args : Array Value} {below : List Frame} {meth : Method} {c : Code} {H H0 : Heap} {locs : List Loc} {cells slots : Nat} {Q : State → Prop}
variable {y : MethodName} {bytes cc : ByteArray} {maxL nL n index pc : Nat} {ret : Option FieldType} {wsy wsy' : List Cond} {rm : Room} {Ts : List Cond} {own C : String} {b : Addr} {As rest : List Value} {ls : Array Slot} {g : va_G} {τ : Nat → ClassId} {ws wc w1 wo : va_W} {v : Option Value} {lv : List (Nat × Value)} {A0 : Nat → Prop}
abbrev cd (y : MethodName) (n : Nat) : Prop := y.cls ≠ "java/lang/invoke/MethodHandle" ∧ y.cls ≠ "java/lang/invoke/VarHandle" ∧ (parseMethodDescriptor y.desc).map (fun d => d.parameters.length) = some n
/-- a call that writes nothing -/
theorem ro_V {ci : Nat} {q : vw_C} {fs : List Value} (S : CallFix p m c cc nL s args Ts own) (hM : Met l y wsy rm (va_Pc (.ref b :: As) (roW g τ wc)) (roQ v) 0 0 nof) (hG : GoodIn Ts (wsV own index C y wsy)) (hd : cd y n) (hw : wsy = Cond.code y bytes maxL ret :: wsy') (hyC : y.cls = C) (hz : rm.cells = 0 ∧ rm.slots = 0) (hR : rm.frames + 1 ≤ R.frames ∧ 8 + (maxL + 11) + rm.locals ≤ R.locals) (hK : KK g τ s) (hP : va_P g vwCl wc H) (qb : Nat) (he : wc[qb]? = some (b, .inr (ci, fs))) (hq : vwCl[ci]? = some q) (hqC : q.1 = C) (hn : As.length = n) (hl : lv_has ls nL lv) {st0 : List Value} (hst : st0 = As.reverse ++ .ref b :: rest) (hcat : (rest.map fun v => v.category).sum ≤ 8) (hdg : decode cc pc = .ok (.invokevirtual index, 3)) (hc : cells ≤ R.cells ∧ slots ≤ R.slots)
    (kk : W p l e R s m args below meth c H locs cells slots Q (F0 m (pc + 3) ls (v.toList ++ rest))) : W p l e R s m args below meth c H locs cells slots Q (F0 m pc ls st0) := by
  subst hst
  exact ro_call (va_runV (As := As) (rest := rest) S hM (cwV n S.2.2.2.2 hG hw hz.1 hz.2 ⟨hyC, hd⟩ hR) ⟨roW_blind, hqC ▸ va_recv hK.1 hP hq he, fun U hU hW => ⟨rfl, by rw [hU]; exact hP, hK.warm hW⟩⟩ rfl hn hl.1 rfl (lv_room hcat) hdg hc) kk
theorem ro_S (S : CallFix p m c cc nL s args Ts own) (hM : Met l y wsy rm (va_Pc As (roW g τ wc)) (roQ v) 0 0 nof) (hG : GoodIn Ts (va_wsS own index y wsy)) (hd : cd y n) (hw : wsy = Cond.code y bytes maxL ret :: wsy') (hz : rm.cells = 0 ∧ rm.slots = 0) (hR : rm.frames + 1 ≤ R.frames ∧ 8 + (maxL + 11) + rm.locals ≤ R.locals) (hK : KK g τ s) (hP : va_P g vwCl wc H) (hn : As.length = n) (hl : lv_has ls nL lv) {st0 : List Value} (hst : st0 = As.reverse ++ rest) (hcat : (rest.map fun v => v.category).sum ≤ 8) (hdg : decode cc pc = .ok (.invokestatic index, 3)) (hc : cells ≤ R.cells ∧ slots ≤ R.slots)
    (kk : W p l e R s m args below meth c H locs cells slots Q (F0 m (pc + 3) ls (v.toList ++ rest))) : W p l e R s m args below meth c H locs cells slots Q (F0 m pc ls st0) := by
  subst hst
  exact ro_call (va_runS (As := As) (rest := rest) S hM (va_cwS n S.2.2.2.2 hG hw hz.1 hz.2 hd hR) ⟨roW_blind, fun U hU hW => ⟨rfl, by rw [hU]; exact hP, hK.warm hW⟩⟩ rfl hn hl.1 rfl (lv_room hcat) hdg hc) kk
theorem ro_SN (S : CallFix p m c cc nL s args Ts own) (hM : Met l y wsy rm (va_Pc As (roW g τ wc)) (roQ v) 0 0 nof) (hG : GoodIn Ts wsy) (hd : cd y n) (hw : wsy = Cond.code y bytes maxL ret :: wsy') (hz : rm.cells = 0 ∧ rm.slots = 0) (hR : rm.frames + 1 ≤ R.frames ∧ 8 + (maxL + 11) + rm.locals ≤ R.locals) (hK : KK g τ s) (hnest : (own, index, y) ∈ nwM) (hini : Cond.initialized y.cls ∈ Ts) (hstt : Cond.static y ∈ Ts) (hP : va_P g vwCl wc H) (hn : As.length = n) (hl : lv_has ls nL lv) {st0 : List Value} (hst : st0 = As.reverse ++ rest) (hcat : (rest.map fun v => v.category).sum ≤ 8) (hdg : decode cc pc = .ok (.invokestatic index, 3)) (hc : cells ≤ R.cells ∧ slots ≤ R.slots)
    (kk : W p l e R s m args below meth c H locs cells slots Q (F0 m (pc + 3) ls (v.toList ++ rest))) : W p l e R s m args below meth c H locs cells slots Q (F0 m pc ls st0) := by
  subst hst
  exact ro_call (va_runSN (As := As) (rest := rest) S hM ⟨va_cnB n S.2.2.2.2 hG hw hz.1 hz.2 (hK.2.2 _ hnest) (S.2.2.2.2 _ hini) hd hR, S.2.2.2.2 _ hstt, trivial⟩ ⟨roW_blind, fun U hU hW => ⟨rfl, by rw [hU]; exact hP, hK.warm hW⟩⟩ rfl hn hl.1 rfl (lv_room hcat) hdg hc) kk
/-- a call that writes: the caller's world comes back with the callee's cells in it -/
theorem rw_V {Z : Option Value → va_W → Prop} {ci : Nat} {q : vw_C} {fs : List Value} (S : CallFix p m c cc nL s args Ts own) (hM : Met l y wsy rm (va_Pc (.ref b :: As) (rwW g τ wc)) (rwQ g Z (inW wc)) 0 0 (inW wc)) (hG : GoodIn Ts (wsV own index C y wsy)) (hd : cd y n) (hw : wsy = Cond.code y bytes maxL ret :: wsy') (hyC : y.cls = C) (hz : rm.cells = 0 ∧ rm.slots = 0) (hR : rm.frames + 1 ≤ R.frames ∧ 8 + (maxL + 11) + rm.locals ≤ R.locals) (hK : KK g τ s) (hP : va_P g vwCl ws H) (hD : va_D A0 ws) (hS : va_S A0 H0 H locs) (is : List Nat) (hC : is.map (fun i => ws[i]?) = wc.map some) (hnd : va_nd is = true) (qb : Nat) (he : wc[qb]? = some (b, .inr (ci, fs))) (hq : vwCl[ci]? = some q) (hqC : q.1 = C) (hn : As.length = n) (hl : lv_has ls nL lv) {st0 : List Value} (hst : st0 = As.reverse ++ .ref b :: rest) (hcat : (rest.map fun v => v.category).sum ≤ 8) (hdg : decode cc pc = .ok (.invokevirtual index, 3)) (hc : cells ≤ R.cells ∧ slots ≤ R.slots) (hf : ∀ v w1, Z v w1 → w1.map Prod.fst = wc.map Prod.fst)
    (kk : ∀ (v : Option Value) (w1 : va_W) (H1 : Heap) (locs1 : List Loc), Z v w1 → va_P g vwCl (va_repl ws (is.zip w1)) H1 → va_D A0 (va_repl ws (is.zip w1)) → va_S A0 H0 H1 locs1 → W p l e R s m args below meth c H1 locs1 cells slots Q (F0 m (pc + 3) ls (v.toList ++ rest))) : W p l e R s m args below meth c H locs cells slots Q (F0 m pc ls st0) := by
  subst hst
  have hPc : va_P g vwCl wc H := cut_P hP hC
  refine rw_call (va_runV (As := As) (rest := rest) S hM (cwV n S.2.2.2.2 hG hw hz.1 hz.2 ⟨hyC, hd⟩ hR) ⟨rwW_blind, hqC ▸ va_recv hK.1 hPc hq he, fun U hU hW => ⟨rfl, by rw [hU]; exact hPc, (hD.sub is hnd hC).weaken (fun _ _ _ _ => trivial), hK.warm hW⟩⟩ rfl hn hl.1 rfl (lv_room hcat) hdg hc) hS (inW_A hD hC) (fun v w1 H1 locs1 hZ hP1 hz1 hk1 hS1 => ?_)
  obtain ⟨a1, a2⟩ := back_P hP hD hC (hf v w1 hZ) hk1 hP1
  exact kk v w1 H1 locs1 hZ a1 a2 hS1
theorem rw_S {Z : Option Value → va_W → Prop} (S : CallFix p m c cc nL s args Ts own) (hM : Met l y wsy rm (va_Pc As (rwW g τ wc)) (rwQ g Z (inW wc)) 0 0 (inW wc)) (hG : GoodIn Ts (va_wsS own index y wsy)) (hd : cd y n) (hw : wsy = Cond.code y bytes maxL ret :: wsy') (hz : rm.cells = 0 ∧ rm.slots = 0) (hR : rm.frames + 1 ≤ R.frames ∧ 8 + (maxL + 11) + rm.locals ≤ R.locals) (hK : KK g τ s) (hP : va_P g vwCl ws H) (hD : va_D A0 ws) (hS : va_S A0 H0 H locs) (is : List Nat) (hC : is.map (fun i => ws[i]?) = wc.map some) (hnd : va_nd is = true) (hn : As.length = n) (hl : lv_has ls nL lv) {st0 : List Value} (hst : st0 = As.reverse ++ rest) (hcat : (rest.map fun v => v.category).sum ≤ 8) (hdg : decode cc pc = .ok (.invokestatic index, 3)) (hc : cells ≤ R.cells ∧ slots ≤ R.slots) (hf : ∀ v w1, Z v w1 → w1.map Prod.fst = wc.map Prod.fst)
    (kk : ∀ (v : Option Value) (w1 : va_W) (H1 : Heap) (locs1 : List Loc), Z v w1 → va_P g vwCl (va_repl ws (is.zip w1)) H1 → va_D A0 (va_repl ws (is.zip w1)) → va_S A0 H0 H1 locs1 → W p l e R s m args below meth c H1 locs1 cells slots Q (F0 m (pc + 3) ls (v.toList ++ rest))) : W p l e R s m args below meth c H locs cells slots Q (F0 m pc ls st0) := by
  subst hst
  have hPc : va_P g vwCl wc H := cut_P hP hC
  refine rw_call (va_runS (As := As) (rest := rest) S hM (va_cwS n S.2.2.2.2 hG hw hz.1 hz.2 hd hR) ⟨rwW_blind, fun U hU hW => ⟨rfl, by rw [hU]; exact hPc, (hD.sub is hnd hC).weaken (fun _ _ _ _ => trivial), hK.warm hW⟩⟩ rfl hn hl.1 rfl (lv_room hcat) hdg hc) hS (inW_A hD hC) (fun v w1 H1 locs1 hZ hP1 hz1 hk1 hS1 => ?_)
  obtain ⟨a1, a2⟩ := back_P hP hD hC (hf v w1 hZ) hk1 hP1
  exact kk v w1 H1 locs1 hZ a1 a2 hS1
/-- an element of an int array, by a number -/
theorem gi_ald (hexec : p.tables.exec = Jvm.exec) (hb : c.code = cc) (hK : KK g τ s) (hP : va_P g vwCl ws H) (q0 : Nat) {aa : Nat} {N : Nat} {f : Nat → Int32} (ha : ws[q0]? = some (aa, .inl (τ 0, N, .inl f))) {i : Int32} (k : Nat) (hi : i = nI k) (hk : k < N) (hN : N < 2 ^ 31) (hdg : decode cc pc = .ok (.iaload, 1))
    (kk : W p l e R s m args below meth c H locs cells slots Q (F0 m (pc + 1) ls (.int (f k) :: rest))) : W p l e R s m args below meth c H locs cells slots Q (F0 m pc ls (.int i :: .ref aa :: rest)) := by
  subst hi
  refine va_iald (i := nI k) hexec hb hK.1 hP q0 0 ha rfl (vp_in_nI hk hN) hdg ?_
  rw [nI_clamp (Nat.lt_trans hk hN)]
  exact kk
theorem gi_ast (hexec : p.tables.exec = Jvm.exec) (hb : c.code = cc) (hK : KK g τ s) (hP : va_P g vwCl ws H) (hD : va_D A0 ws) (hS : va_S A0 H0 H locs) (q0 : Nat) {aa : Nat} {N : Nat} {f : Nat → Int32} (ha : ws[q0]? = some (aa, .inl (τ 0, N, .inl f))) {i x : Int32} (k : Nat) (hi : i = nI k) (hk : k < N) (hN : N < 2 ^ 31) (hdg : decode cc pc = .ok (.iastore, 1))
    (hwo : ws.set q0 (aa, .inl (τ 0, N, .inl (upd f k x))) = wo)
    (kk : ∀ (H1 : Heap) (locs1 : List Loc), va_P g vwCl wo H1 → va_D A0 wo → va_S A0 H0 H1 locs1 → W p l e R s m args below meth c H1 locs1 cells slots Q (F0 m (pc + 1) ls rest)) : W p l e R s m args below meth c H locs cells slots Q (F0 m pc ls (.int x :: .int i :: .ref aa :: rest)) := by
  subst hi; subst hwo
  refine va_iast (i := nI k) (x := x) hexec hb hK.1 hP hD hS q0 0 ha rfl (vp_in_nI hk hN) hdg ?_
  rw [nI_clamp (Nat.lt_trans hk hN)]
  exact kk
end KT2
def b2 (b : Bool) : Int32 := if b then 1 else 0
theorem nar_b2 (b : Bool) : narrow .boolean (.int (b2 b)) = .int (b2 b) := by cases b <;> rfl
theorem fit_b2 (b : Bool) : fits .boolean (.int (b2 b)) = true := by cases b <;> rfl
theorem b2_0 {b : Bool} (h : b2 b = 0) : b = false := by cases b <;> simp [b2] at h ⊢
theorem b2_1 {b : Bool} (h : ¬ b2 b = 0) : b = true := by cases b <;> simp [b2] at h ⊢
def imax (x y : Int32) : Int32 := if x < y then y else x
def imin (x y : Int32) : Int32 := if x < y then x else y
theorem lv_eq {ls : Array Slot} {n : Nat} {l l' : List (Nat × Value)} (h : lv_has ls n l) (e : l' = l) : lv_has ls n l' := e ▸ h
theorem lp_out {i N : Nat} {x y : Int32} (hx : x = nI i) (hy : y = nI N) (hN : N < 2 ^ 31) (hi : i ≤ N) (c : y ≤ x) : i = N := by
  subst hx; subst hy
  have := (nI_leI hN (Nat.lt_of_le_of_lt hi hN)).mp c
  omega
theorem lp_in {i N : Nat} {x y : Int32} (hx : x = nI i) (hy : y = nI N) (hN : N < 2 ^ 31) (hi : i ≤ N) (c : ¬ y ≤ x) : i < N := by
  subst hx; subst hy
  exact Nat.not_le.mp fun h => c ((nI_leI hN (Nat.lt_of_le_of_lt hi hN)).mpr h)
section KT3
variable {p : Program} {l : Launch} {e : Env} {R : Room} {s : State} {m : MethodId} {args : Array Value} {below : List Frame} {meth : Method} {c : Code} {H H0 : Heap} {locs : List Loc} {cells slots : Nat} {Q : State → Prop}
variable {cc : ByteArray} {nL pc : Nat} {rest : List Value} {ls : Array Slot} {g : va_G} {τ : Nat → ClassId} {ws wo : va_W} {A A0 : Nat → Prop}
theorem jn (gJ : JFrame) {gg : JFrame} (k : W p l e R s m args below meth c H locs cells slots Q gJ) (h : W p l e R s m args below meth c H locs cells slots Q gJ → W p l e R s m args below meth c H locs cells slots Q gg) : W p l e R s m args below meth c H locs cells slots Q gg := h k
theorem cv_i {x y : Int32} (h : x = y) (k : W p l e R s m args below meth c H locs cells slots Q (F0 m pc ls (.int y :: rest))) : W p l e R s m args below meth c H locs cells slots Q (F0 m pc ls (.int x :: rest)) := h ▸ k
theorem cv_l {x y : Int64} (h : x = y) (k : W p l e R s m args below meth c H locs cells slots Q (F0 m pc ls (.long y :: rest))) : W p l e R s m args below meth c H locs cells slots Q (F0 m pc ls (.long x :: rest)) := h ▸ k
theorem tl_some {v : Value} (k : W p l e R s m args below meth c H locs cells slots Q (F0 m pc ls (v :: rest))) : W p l e R s m args below meth c H locs cells slots Q (F0 m pc ls ((some v).toList ++ rest)) := k
theorem tl_none (k : W p l e R s m args below meth c H locs cells slots Q (F0 m pc ls rest)) : W p l e R s m args below meth c H locs cells slots Q (F0 m pc ls ((none : Option Value).toList ++ rest)) := k
theorem lp_up (lv : Nat → List (Nat × Value)) (I : Nat → Prop) (N i0 : Nat) (h0 : i0 ≤ N) {st : List Value} (hI : I i0) (hl : lv_has ls nL (lv i0))
    (step : ∀ i, i0 ≤ i → i ≤ N → I i → (i < N → I (i + 1) → ∀ ls', lv_has ls' nL (lv (i + 1)) → W p l e R s m args below meth c H locs cells slots Q (F0 m pc ls' st)) → ∀ ls', lv_has ls' nL (lv i) → W p l e R s m args below meth c H locs cells slots Q (F0 m pc ls' st)) : W p l e R s m args below meth c H locs cells slots Q (F0 m pc ls st) := by
  have key : ∀ n i, i0 ≤ i → i ≤ N → N - i ≤ n → I i → ∀ ls', lv_has ls' nL (lv i) → W p l e R s m args below meth c H locs cells slots Q (F0 m pc ls' st) := by
    intro n
    induction n with
    | zero => intro i h1 h2 h3 hI ls' hl'; exact step i h1 h2 hI (fun h => by omega) ls' hl'
    | succ n ih => intro i h1 h2 h3 hI ls' hl'; exact step i h1 h2 hI (fun h hI2 ls2 hl2 => ih (i + 1) (by omega) (by omega) (by omega) hI2 ls2 hl2) ls' hl'
  exact key (N - i0) i0 (Nat.le_refl _) h0 (Nat.le_refl _) hI ls hl
theorem lp_upW (lv : Nat → List (Nat × Value)) (w : Nat → va_W) (I : Nat → Prop) (N i0 : Nat) (h0 : i0 ≤ N) {st : List Value} (hP : va_P g vwCl (w i0) H) (hD : va_D A (w i0)) (hS : va_S A H0 H locs) (hI : I i0) (hl : lv_has ls nL (lv i0))
    (step : ∀ i, i0 ≤ i → i ≤ N → I i → (i < N → I (i + 1) → ∀ H' locs' ls', va_P g vwCl (w (i + 1)) H' → va_D A (w (i + 1)) → va_S A H0 H' locs' → lv_has ls' nL (lv (i + 1)) → W p l e R s m args below meth c H' locs' cells slots Q (F0 m pc ls' st)) → ∀ H' locs', va_P g vwCl (w i) H' → va_D A (w i) → va_S A H0 H' locs' → ∀ ls', lv_has ls' nL (lv i) → W p l e R s m args below meth c H' locs' cells slots Q (F0 m pc ls' st)) : W p l e R s m args below meth c H locs cells slots Q (F0 m pc ls st) := by
  have key : ∀ n i, i0 ≤ i → i ≤ N → N - i ≤ n → I i → ∀ H' locs', va_P g vwCl (w i) H' → va_D A (w i) → va_S A H0 H' locs' → ∀ ls', lv_has ls' nL (lv i) → W p l e R s m args below meth c H' locs' cells slots Q (F0 m pc ls' st) := by
    intro n
    induction n with
    | zero => intro i h1 h2 h3 hI H' locs' a1 a2 a3 ls' hl'; exact step i h1 h2 hI (fun h => by omega) H' locs' a1 a2 a3 ls' hl'
    | succ n ih => intro i h1 h2 h3 hI H' locs' a1 a2 a3 ls' hl'; exact step i h1 h2 hI (fun h hI2 H2 l2 ls2 b1 b2 b3 hl2 => ih (i + 1) (by omega) (by omega) (by omega) hI2 H2 l2 b1 b2 b3 ls2 hl2) H' locs' a1 a2 a3 ls' hl'
  exact key (N - i0) i0 (Nat.le_refl _) h0 (Nat.le_refl _) hI H locs hP hD hS ls hl
theorem ro_iret {r r' : Int32} (hexec : p.tables.exec = Jvm.exec) (hb : c.code = cc) (hr : meth.sig.returnType = some .int) (hlocks : meth.locks = false) (e1 : r' = r) (hdg : decode cc pc = .ok (.ireturn, 1)) : W p l e R s m args below meth c s.heap [] 0 0 (MQ below (roQ (some (.int r))) args s 0 0 nof) (F0 m pc ls [.int r']) := by
  subst e1
  exact W.iret hexec hb hr (fun t ht _ => ⟨rfl, ht⟩) (fun _ h => by cases h) hdg
theorem ro_zret {r r' : Int32} (hexec : p.tables.exec = Jvm.exec) (hb : c.code = cc) (hr : meth.sig.returnType = some .boolean) (hlocks : meth.locks = false) (e1 : ∃ b, r = b2 b ∧ r' = b2 b) (hdg : decode cc pc = .ok (.ireturn, 1)) : W p l e R s m args below meth c s.heap [] 0 0 (MQ below (roQ (some (.int r))) args s 0 0 nof) (F0 m pc ls [.int r']) := by
  obtain ⟨b, rfl, rfl⟩ := e1
  exact W.zret hexec hb hr (nar_b2 b) (fun t ht _ => ⟨rfl, ht⟩) (fun _ h => by cases h) hdg
theorem ro_lret {r r' : Int64} (hexec : p.tables.exec = Jvm.exec) (hb : c.code = cc) (hr : meth.sig.returnType = some .long) (hlocks : meth.locks = false) (e1 : r' = r) (hdg : decode cc pc = .ok (.lreturn, 1)) : W p l e R s m args below meth c s.heap [] 0 0 (MQ below (roQ (some (.long r))) args s 0 0 nof) (F0 m pc ls [.long r']) := by
  subst e1
  exact W.lret hexec hb hr (fun t ht _ => ⟨rfl, ht⟩) (fun _ h => by cases h) hdg
theorem rw_vret {Z : Option Value → va_W → Prop} (hexec : p.tables.exec = Jvm.exec) (hb : c.code = cc) (hr : meth.sig.returnType = none) (hlocks : meth.locks = false) (hP : va_P g vwCl ws H) (hS : va_S A s.heap H locs) (hZ : Z none ws) (hdg : decode cc pc = .ok (.return_, 1)) : W p l e R s m args below meth c H locs 0 0 (MQ below (rwQ g Z A) args s 0 0 A) (F0 m pc ls []) :=
  W.vret hexec hb hr (fun t ht _ => ⟨none, ws, hZ, rfl, by rw [ht]; exact hP, hS.F ht⟩) hS.2.2 hdg
theorem rw_iret {Z : Option Value → va_W → Prop} {r : Int32} (hexec : p.tables.exec = Jvm.exec) (hb : c.code = cc) (hr : meth.sig.returnType = some .int) (hlocks : meth.locks = false) (hP : va_P g vwCl ws H) (hS : va_S A s.heap H locs) (hZ : Z (some (.int r)) ws) (hdg : decode cc pc = .ok (.ireturn, 1)) : W p l e R s m args below meth c H locs 0 0 (MQ below (rwQ g Z A) args s 0 0 A) (F0 m pc ls [.int r]) :=
  W.iret hexec hb hr (fun t ht _ => ⟨_, ws, hZ, rfl, by rw [ht]; exact hP, hS.F ht⟩) hS.2.2 hdg
theorem rw_zret {Z : Option Value → va_W → Prop} {r : Int32} (hexec : p.tables.exec = Jvm.exec) (hb : c.code = cc) (hr : meth.sig.returnType = some .boolean) (hlocks : meth.locks = false) (hP : va_P g vwCl ws H) (hS : va_S A s.heap H locs) (hZ : Z (some (.int r)) ws ∧ ∃ b, r = b2 b) (hdg : decode cc pc = .ok (.ireturn, 1)) : W p l e R s m args below meth c H locs 0 0 (MQ below (rwQ g Z A) args s 0 0 A) (F0 m pc ls [.int r]) := by
  obtain ⟨hZ, b, rfl⟩ := hZ
  exact W.zret hexec hb hr (nar_b2 b) (fun t ht _ => ⟨_, ws, hZ, rfl, by rw [ht]; exact hP, hS.F ht⟩) hS.2.2 hdg
theorem gz_ald (hexec : p.tables.exec = Jvm.exec) (hb : c.code = cc) (hK : KK g τ s) (hP : va_P g vwCl ws H) (q0 : Nat) {aa N : Nat} {f : Nat → Int32} (ha : ws[q0]? = some (aa, .inl (τ 1, N, .inl f))) {i : Int32} (k : Nat) (hi : i = nI k) (hk : k < N) (hN : N < 2 ^ 31) (hdg : decode cc pc = .ok (.baload, 1))
    (kk : W p l e R s m args below meth c H locs cells slots Q (F0 m (pc + 1) ls (.int (f k) :: rest))) : W p l e R s m args below meth c H locs cells slots Q (F0 m pc ls (.int i :: .ref aa :: rest)) := by
  subst hi
  refine va_zald (i := nI k) hexec hb hK.1 hP q0 1 ha rfl (vp_in_nI hk hN) hdg ?_
  rw [nI_clamp (Nat.lt_trans hk hN)]
  exact kk
theorem gc_ald (hexec : p.tables.exec = Jvm.exec) (hb : c.code = cc) (hK : KK g τ s) (hP : va_P g vwCl ws H) (q0 : Nat) {aa N : Nat} {f : Nat → Int32} (ha : ws[q0]? = some (aa, .inl (τ 2, N, .inl f))) {i : Int32} (k : Nat) (hi : i = nI k) (hk : k < N) (hN : N < 2 ^ 31) (hdg : decode cc pc = .ok (.caload, 1))
    (kk : W p l e R s m args below meth c H locs cells slots Q (F0 m (pc + 1) ls (.int (f k) :: rest))) : W p l e R s m args below meth c H locs cells slots Q (F0 m pc ls (.int i :: .ref aa :: rest)) := by
  subst hi
  refine va_cald (i := nI k) hexec hb hK.1 hP q0 2 ha rfl (vp_in_nI hk hN) hdg ?_
  rw [nI_clamp (Nat.lt_trans hk hN)]
  exact kk
theorem gq_ald (hexec : p.tables.exec = Jvm.exec) (hb : c.code = cc) (hK : KK g τ s) (hP : va_P g vwCl ws H) (q0 t0 : Nat) {cA : ClassId} {C : String} {aa N : Nat} {f : Nat → Option Nat} (ha : ws[q0]? = some (aa, .inl (cA, N, .inr (.inr (.inr (.inr f)))))) (ht : (tyL τ)[t0]? = some (cA, .object C)) {i : Int32} (k : Nat) (hi : i = nI k) (hk : k < N) (hN : N < 2 ^ 31) {b : Nat} (hf : f k = some b) (hdg : decode cc pc = .ok (.aaload, 1))
    (kk : W p l e R s m args below meth c H locs cells slots Q (F0 m (pc + 1) ls (.ref b :: rest))) : W p l e R s m args below meth c H locs cells slots Q (F0 m pc ls (.int i :: .ref aa :: rest)) := by
  subst hi
  refine va_aldq (i := nI k) hexec hb hK.1 hP q0 t0 ha ht (vp_in_nI hk hN) hdg ?_
  rw [nI_clamp (Nat.lt_trans hk hN), hf]
  exact kk
end KT3
