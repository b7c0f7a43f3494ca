/-! the law's calls of its statics -/
section QS
variable {p : Program} {l : Launch} {e : Env} {R : Room} {s : State} {m : MethodId} {args : Array Value} {below : List Frame} {meth : Method} {c : Code} {H H0 : Heap} {locs : List Loc} {cells slots : Nat} {Q : State → Prop}
variable {y : MethodName} {bytes cc : ByteArray} {maxL nL n index pc : Nat} {ret : Option FieldType} {hh : List (Nat × Nat × Nat × Nat)} {wsy wsy' : List Cond} {rm : Room} {Ts : List Cond} {own : String} {As rest : List Value} {ls : Array Slot} {g : va_G} {τ : Nat → ClassId} {ws wc wr : va_W} {lv : List (Nat × Value)} {A0 : Nat → Prop} {Z : Option Value → va_W → Prop} {a : Array Value}
theorem q_go {st0 : List Value} (hr : va_Run p l e R s m args below meth c H locs cells slots 1 6 (F0 m pc ls st0) rest (rwQ g Z (inW wc) a) (inW wc)) (hP : va_P g vwCl (wc ++ wr) H) (hD : va_D A0 (wc ++ wr)) (hS : va_S A0 H0 H locs) (hf : ∀ v w1, Z v w1 → w1.map Prod.fst = wc.map Prod.fst)
    (kk : ∀ (v : Option Value) (w1 : va_W) (H1 : Heap) (locs1 : List Loc), Z v w1 → va_P g vwCl (w1 ++ wr) H1 → va_D A0 (w1 ++ wr) → va_S A0 H0 H1 locs1 → W p l e R s m args below meth c H1 locs1 (cells + 1) (slots + 6) Q (F0 m (pc + 3) ls (v.toList ++ rest))) : W p l e R s m args below meth c H locs cells slots Q (F0 m pc ls st0) := by
  have hA := u_inW hD
  intro T hT X
  obtain ⟨v', st₀, t, T', L, h0, X', hL, e1, e2, ⟨v, w1, hZ, hv, hP1, hz, hk⟩, st⟩ := hr T hT X
  cases hv
  rw [h0] at hz hk
  obtain ⟨b1, b2⟩ := u_back hP hD (hf _ w1 hZ) hk hP1
  obtain ⟨t2, c1, c2⟩ := kk v' w1 T'.heap (locs ++ L) hZ (by rw [e1]; exact b1) b2
    ⟨Nat.le_trans hS.1 (by rw [e1]; exact hz), fun q h1 h2 => by rw [e1, hk q (Nat.lt_of_lt_of_le h1 hS.1) (fun z => h2 (hA q z))]; exact hS.2.1 q h1 h2, fun q hq => by
      rcases List.mem_append.mp hq with h | h
      · exact hS.2.2 q h
      · exact hA _ (hL q h)⟩ T' rfl X'
  exact ⟨t2, st t2 c1, c2⟩
/-- the law calls a static that has handlers -/
theorem q_S (S : CallFix p m c cc nL s args Ts own) (hM : qMet l y wsy rm g τ As wc Z) (hG : GoodIn Ts (va_wsS own index y wsy)) (hd : cd y n) (hw : wsy = Cond.codeWith y bytes maxL ret hh :: wsy') (hz : rm.cells = 1 ∧ rm.slots = 6) (hR : rm.frames + 1 ≤ R.frames ∧ 8 + (maxL + 11) + rm.locals ≤ R.locals) (hK : KK g τ s) (hZT : ZT s) (hZU : ZU A0 s s.heap) (hZC : ZC s) (hP : va_P g vwCl ws H) (hD : va_D A0 ws) (hS : va_S A0 s.heap H locs) (hC : ws.Perm (wc ++ wr)) (hn : As.length = n) (hl : lv_has ls nL lv) {st0 : List Value} (hst : st0 = As.reverse ++ rest) (hcat : (rest.map fun v => v.category).sum ≤ 8) (hdg : decode cc pc = .ok (.invokestatic index, 3)) (hc : cells + 1 ≤ R.cells ∧ slots + 6 ≤ R.slots) (hf : ∀ v w1, Z v w1 → w1.map Prod.fst = wc.map Prod.fst)
    (kk : ∀ (v : Option Value) (w1 : va_W) (H1 : Heap) (locs1 : List Loc), Z v w1 → va_P g vwCl (w1 ++ wr) H1 → va_D A0 (w1 ++ wr) → va_S A0 s.heap H1 locs1 → W p l e R s m args below meth c H1 locs1 (cells + 1) (slots + 6) Q (F0 m (pc + 3) ls (v.toList ++ rest))) : W p l e R s m args below meth c H locs cells slots Q (F0 m pc ls st0) := by
  subst hst
  have hP2 := hP.pm hC
  have hD2 := hD.pm hC
  have hPc : va_P g vwCl wc H := va_left hP2
  exact q_go (vx_runSW (As := As) (rest := rest) S hM (vx_cwSW n S.2.2.2.2 hG hw hz.1 hz.2 hd hR) ⟨yW_blind, fun U hU hW => ⟨rfl, ⟨⟨by rw [hU]; exact hPc, hD2.left.weaken (fun _ _ _ _ => trivial), hK.warm hW⟩, hZT.warm hW, by rw [hU]; exact ZU.moved hW.alike ((hZU.kept (fun a h1 h2 => hS.2.1 a h1 h2)).narrow (u_inW hD2))⟩, hZC.warm hW⟩⟩ rfl hn hl.1 rfl (lv_room hcat) hdg hc) hP2 hD2 hS hf kk
end QS
