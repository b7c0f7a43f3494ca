/-! the law: what holds all along, its arguments, its calls, its checks -/
def LC (p : Program) (s : State) (m : MethodId) (meth : Method) (c : Code) (b L : Nat) (xs : Nat → Int32) (g : va_G) (τ : Nat → ClassId) (A : Nat → Prop) : Prop := CallFix p m c cL_law 7 s #[Value.ref b] lw_tbl RL ∧ (meth.sig.returnType = some .boolean ∧ meth.locks = false) ∧ (va_X b L xs s s.heap ∧ b < s.heap.size ∧ ¬ A b ∧ L ≤ 3072) ∧ KK g τ s ∧ ZT s ∧ ZU A s s.heap ∧ ZC s
def yI (xs : Nat → Int32) (j : Nat) : Int := (xs j).toInt
theorem yI_as (xs : Nat → Int32) (j : Nat) : xs j = iI (yI xs j) := (iI_as (xs j)).symm
theorem yI_r (xs : Nat → Int32) (j : Nat) : -2147483648 ≤ yI xs j ∧ yI xs j < 2147483648 := ⟨Int32.le_toInt (xs j), Int32.toInt_lt (xs j)⟩
def JW (τ : Nat → ClassId) (x mm : Nat) (w wm : va_W) : Prop := ∃ (Q : Nat → Nat → Int) (n : Int) (B : Nat → Nat → Nat → Int) (V : Nat → Int) (K : Nat → Nat → Nat → Int) (t : Int) (S : Nat → Int) (k : Int), CW τ x Q n B V K t S w ∧ MW τ mm Q n B V K t S k wm
def MT (mm : Nat) (k : Int) (w : va_W) : Prop := ∃ (ma : Nat → Nat) (M : Nat → Int) (rest : va_W), w = [moO ma M] ++ rest ∧ ma 0 = mm ∧ M 0 = k
theorem MW_t {τ : Nat → ClassId} {mm : Nat} {Q : Nat → Nat → Int} {n : Int} {B : Nat → Nat → Nat → Int} {V : Nat → Int} {K : Nat → Nat → Nat → Int} {t : Int} {S : Nat → Int} {k : Int} {w : va_W} (h : MW τ mm Q n B V K t S k w) : MT mm k w := by
  obtain ⟨ma, M, T, D, P, hI, ⟨h0, h1, -, -⟩, rfl⟩ := h
  exact ⟨ma, M, _, rfl, h0, h1⟩
theorem MW_0 {τ : Nat → ClassId} {mm : Nat} {Q : Nat → Nat → Int} {n : Int} {B : Nat → Nat → Nat → Int} {V : Nat → Int} {K : Nat → Nat → Nat → Int} {t : Int} {S : Nat → Int} {k : Int} {w : va_W} (h : MW τ mm Q n B V K t S k w) : ∃ fs, w[0]? = some (mm, .inr (10, fs)) := by
  obtain ⟨ma, M, T, D, P, hI, ⟨rfl, h1, -, -⟩, rfl⟩ := h
  exact ⟨_, rfl⟩
theorem CW_0 {τ : Nat → ClassId} {x sl sv : Nat} {ta aj me ad bd : Nat → Nat} {R T J : Nat → Nat → Int} {n o : Int} {X S V : Nat → Int} {VV WW : Nat → BS} : ∃ fs, (CWl τ x sl sv ta aj me ad bd R T J n o X S V VV WW)[0]? = some (x, .inr (9, fs)) := ⟨_, rfl⟩
/-- where the checks stand: behind the reference's answer -/
def tailAt (pc : Nat) (off : Int) : Prop := decode cL_law pc = .ok (.istore 6, 2) ∧ decode cL_law (pc + 2) = .ok (.aload_n 2, 1) ∧ decode cL_law (pc + 3) = .ok (.invokevirtual 132, 3) ∧ decode cL_law (pc + 6) = .ok (.iload 5, 2) ∧ decode cL_law (pc + 8) = .ok (.if_icmp .eq 5, 3) ∧ decode cL_law (pc + 13) = .ok (.iload 5, 2) ∧ decode cL_law (pc + 15) = .ok (.ifCond .ne 15, 3) ∧ decode cL_law (pc + 18) = .ok (.aload_n 3, 1) ∧ decode cL_law (pc + 19) = .ok (.iconst 0, 1) ∧ decode cL_law (pc + 20) = .ok (.laload, 1) ∧ decode cL_law (pc + 21) = .ok (.iload 6, 2) ∧ decode cL_law (pc + 23) = .ok (.i2l, 1) ∧ decode cL_law (pc + 24) = .ok (.lcmp, 1) ∧ decode cL_law (pc + 25) = .ok (.ifCond .eq 5, 3) ∧ decode cL_law (pc + 30) = .ok (.goto off, 3) ∧ ((pc + 30 : Nat) : Int) + off = 2441
theorem lg_same (x : Int64) : lg_cmp x x = iI 0 := by
  have h : x = iL x.toInt := (Int64.ofInt_toInt x).symm
  have hr : rngl x.toInt := ⟨Int64.le_toInt x, Int64.toInt_lt x⟩
  rw [h, lgc hr hr, if_neg (by omega), if_pos rfl]
section LAW
variable {p : Program} {l : Launch} {e : Env} {s : State} {m : MethodId} {below : List Frame} {meth : Method} {c : Code} {H : Heap} {locs : List Loc} {cells slots : Nat} {QQ : State → Prop} {b L : Nat} {xs : Nat → Int32} {g : va_G} {τ : Nat → ClassId} {A : Nat → Prop} {ls : Array Slot} {rest : List Value} {pc : Nat} {lv lv' : List (Nat × Value)} {x mm oa : Nat} {z : Int64} {w wm w0 : va_W}
variable {y : MethodName} {bytes : ByteArray} {maxL n index : Nat} {ret : Option FieldType} {hh : List (Nat × Nat × Nat × Nat)} {wsy wsy' : List Cond} {rm : Room} {As : List Value} {k val : Int} {off : Int}
/-- an int of the script -/
theorem la_arg (C0 : LC p s m meth c b L xs g τ A) {i j : Nat} {jz : Int} (hij : i + j < L) (hj : jz = (j : Int)) (q0 q4 : Nat) (hl : lv_has ls 7 lv) (h0 : lv[q0]? = some (0, .ref b)) (h4 : lv[q4]? = some (4, .int (iI (i : Int)))) (hS : va_S A s.heap H locs) (d0 : decode cL_law pc = .ok (.aload_n 0, 1)) (d1 : decode cL_law (pc + 1) = .ok (.iload 4, 2)) (d3 : decode cL_law (pc + 3) = .ok (.iconst jz, 1)) (d4 : decode cL_law (pc + 4) = .ok (.iadd, 1)) (d5 : decode cL_law (pc + 5) = .ok (.iaload, 1)) (kk : W p l e room_1 s m #[Value.ref b] below meth c H locs cells slots QQ (F0 m (pc + 6) ls (.int (iI (yI xs (i + j))) :: rest))) : W p l e room_1 s m #[Value.ref b] below meth c H locs cells slots QQ (F0 m pc ls rest) := by
  subst hj
  have hx := C0.1.1
  have hb := C0.1.2.1
  obtain ⟨hX, hbl, hbA, hL⟩ := C0.2.2.1
  refine lv_aload_n hx hb d0 rfl (lv_at hl q0 h0) ?_
  refine lv_iload hx hb d1 (lv_at hl q4 h4) ?_
  refine lv_iconst (v := iI (j : Int)) hx hb d3 rfl ?_
  refine zi_add hx hb d4 ?_
  have e1 : (i : Int) + (j : Int) = ((i + j : Nat) : Int) := by omega
  rw [e1]
  refine va_sld hx hb hX hbl hbA hS (by rw [iI_nat]; exact vp_in_nI hij (by omega)) d5 ?_
  rw [iI_cl (by omega), yI_as xs (i + j)]
  exact kk
/-- a static of the law -/
theorem lw_A (C0 : LC p s m meth c b L xs g τ A) {P : va_W → Prop} (hM : qMet l y wsy rm g τ As ([outC oa z τ] ++ w0) (SO k val P oa τ)) (hp : w.Perm w0) (hfw : ∀ w1, P w1 → w1.map Prod.fst = w0.map Prod.fst) (hG : GoodIn lw_tbl (va_wsS RL index y wsy)) (hd : cd y n) (hw : wsy = Cond.codeWith y bytes maxL ret hh :: wsy') (hz : rm.cells = 1 ∧ rm.slots = 6) (hR : rm.frames + 1 ≤ 14 ∧ 8 + (maxL + 11) + rm.locals ≤ 578) (hP : va_P g vwCl ([outC oa z τ] ++ (w ++ wm)) H) (hD : va_D A ([outC oa z τ] ++ (w ++ wm))) (hS : va_S A s.heap H locs) (hn : As.length = n) (hl : lv_has ls 7 lv) {st0 : List Value} (hst : st0 = As.reverse) (hdg : decode cL_law pc = .ok (.invokestatic index, 3)) (d3 : decode cL_law (pc + 3) = .ok (.istore 5, 2)) (hc : cells + 1 ≤ 601024 ∧ slots + 6 ≤ 7293034) (hlv : (5, Value.int (iI k)) :: lv.filter (fun q => !(q.1 == 5) && !(q.1 + 1 == 5 && q.2.category == 2)) = lv')
    (kk : ∀ (z' : Int64) (w' : va_W) (H1 : Heap) (locs1 : List Loc) (ls1 : Array Slot), (k = 0 → z' = (iI val).toInt64) → P w' → va_P g vwCl ([outC oa z' τ] ++ (w' ++ wm)) H1 → va_D A ([outC oa z' τ] ++ (w' ++ wm)) → va_S A s.heap H1 locs1 → lv_has ls1 7 lv' → W p l e room_1 s m #[Value.ref b] below meth c H1 locs1 (cells + 1) (slots + 6) QQ (F0 m (pc + 5) ls1 [])) : W p l e room_1 s m #[Value.ref b] below meth c H locs cells slots QQ (F0 m pc ls st0) := by
  have hx := C0.1.1
  have hb := C0.1.2.1
  obtain ⟨hK, hZT, hZU, hZC⟩ := C0.2.2.2
  have hpm : ([outC oa z τ] ++ (w ++ wm)).Perm (([outC oa z τ] ++ w0) ++ wm) := by
    rw [List.append_assoc]
    exact (hp.append_right wm).append_left _
  refine q_S (R := room_1) (rest := []) C0.1 hM hG hd hw hz hR hK hZT hZU hZC hP hD hS hpm hn hl (by rw [hst, List.append_nil]) (Nat.le_of_ble_eq_true rfl) hdg hc (fun v w1 h => ?_) (fun v w1 H1 locs1 h hP1 hD1 hS1 => ?_)
  · obtain ⟨z1, w2, -, -, hw2, rfl⟩ := h
    exact map_ap rfl (hfw w2 hw2)
  · obtain ⟨z1, w2, rfl, hz1, hw2, rfl⟩ := h
    rw [List.append_assoc] at hP1 hD1
    refine tl_some ?_
    refine lv_istore hx hb d3 hl (by decide) hlv (fun ls1 hl1 => ?_)
    exact kk z1 w2 H1 locs1 ls1 hz1 hw2 hP1 hD1 hS1 hl1
/-- a question of the class that can't be refused -/
theorem lw_V (C0 : LC p s m meth c b L xs g τ A) {P : va_W → Prop} {fs : List Value} (hM : Met l y wsy rm (va_Pc [.ref x] (rwW g τ w0)) (rwQ g (cR w0 val P) (inW w0)) 0 0 (inW w0)) (hfs : w0[0]? = some (x, .inr (9, fs))) (hp : w.Perm w0) (hG : GoodIn lw_tbl (wsV RL index RX9 y wsy)) (hd : cd y 0) (hw : wsy = Cond.code y bytes maxL ret :: wsy') (hyC : y.cls = RX9) (hz : rm.cells = 0 ∧ rm.slots = 0) (hR : rm.frames + 1 ≤ 14 ∧ 8 + (maxL + 11) + rm.locals ≤ 578) (hP : va_P g vwCl ([outC oa z τ] ++ (w ++ wm)) H) (hD : va_D A ([outC oa z τ] ++ (w ++ wm))) (hS : va_S A s.heap H locs) (hl : lv_has ls 7 lv) (hdg : decode cL_law pc = .ok (.invokevirtual index, 3)) (hc : cells ≤ 601024 ∧ slots ≤ 7293034)
    (kk : ∀ (w' : va_W) (H1 : Heap) (locs1 : List Loc), P w' → va_P g vwCl ([outC oa z τ] ++ (w' ++ wm)) H1 → va_D A ([outC oa z τ] ++ (w' ++ wm)) → va_S A s.heap H1 locs1 → W p l e room_1 s m #[Value.ref b] below meth c H1 locs1 cells slots QQ (F0 m (pc + 3) ls [.int (iI val)])) : W p l e room_1 s m #[Value.ref b] below meth c H locs cells slots QQ (F0 m pc ls [.ref x]) := by
  have hK := C0.2.2.2.1
  have hpm : ∀ w1 w2 : va_W, w1.Perm w2 → ([outC oa z τ] ++ (w1 ++ wm)).Perm (w2 ++ ([outC oa z τ] ++ wm)) := fun w1 w2 h => ((h.append_right wm).append_left _).trans (pm3_1 _ _ _)
  refine rq_V (R := room_1) (As := []) (rest := []) C0.1 hM hG hd hw hyC hz hR hK hP hD hS (hpm w w0 hp) 0 hfs (rfl : vwCl[9]? = some (RX9, TX9, 7)) rfl rfl hl rfl (Nat.le_of_ble_eq_true rfl) hdg hc (fun v w1 h => h.2.1) (fun v w1 H1 locs1 h hP1 hD1 hS1 => ?_)
  obtain ⟨rfl, -, h3⟩ := h
  exact kk w1 H1 locs1 h3 (hP1.pm (hpm w1 w1 (List.Perm.refl _)).symm) (hD1.pm (hpm w1 w1 (List.Perm.refl _)).symm) hS1
section MOD
variable {Q Q' : Nat → Nat → Int} {nn nn' : Int} {B B' : Nat → Nat → Nat → Int} {V V' : Nat → Int} {K K' : Nat → Nat → Nat → Int} {t t' : Int} {S S' : Nat → Int} {k0 : Int}
/-- the reference is asked -/
theorem lw_M (C0 : LC p s m meth c b L xs g τ A) {P : va_W → Prop} (hm : MW τ mm Q nn B V K t S k0 wm) (hM : Met l y wsy rm (va_Pc (.ref mm :: As) (rwW g τ wm)) (rwQ g (MZ wm k val (MW τ mm Q' nn' B' V' K' t' S' 0) (MW τ mm Q nn B V K t S k)) (inW wm)) 0 0 (inW wm)) (hG : GoodIn lw_tbl (wsV RL index RX10 y wsy)) (hd : cd y n) (hw : wsy = Cond.code y bytes maxL ret :: wsy') (hyC : y.cls = RX10) (hz : rm.cells = 0 ∧ rm.slots = 0) (hR : rm.frames + 1 ≤ 14 ∧ 8 + (maxL + 11) + rm.locals ≤ 578) (hP : va_P g vwCl ([outC oa z τ] ++ (w ++ wm)) H) (hD : va_D A ([outC oa z τ] ++ (w ++ wm))) (hS : va_S A s.heap H locs) (hn : As.length = n) (hl : lv_has ls 7 lv) {st0 : List Value} (hst : st0 = As.reverse ++ .ref mm :: rest) (hcat : (rest.map fun v => v.category).sum ≤ 8) (hdg : decode cL_law pc = .ok (.invokevirtual index, 3)) (hc : cells ≤ 601024 ∧ slots ≤ 7293034)
    (kk : ∀ (r : Int) (wm' : va_W) (H1 : Heap) (locs1 : List Loc), (k = 0 → r = val) → (k = 0 → MW τ mm Q' nn' B' V' K' t' S' 0 wm') → (¬ k = 0 → MW τ mm Q nn B V K t S k wm') → MT mm k wm' → va_P g vwCl ([outC oa z τ] ++ (w ++ wm')) H1 → va_D A ([outC oa z τ] ++ (w ++ wm')) → va_S A s.heap H1 locs1 → W p l e room_1 s m #[Value.ref b] below meth c H1 locs1 cells slots QQ (F0 m (pc + 3) ls (.int (iI r) :: rest))) : W p l e room_1 s m #[Value.ref b] below meth c H locs cells slots QQ (F0 m pc ls st0) := by
  obtain ⟨fs, hfs⟩ := MW_0 hm
  have hK := C0.2.2.2.1
  have hpm : ∀ w1 : va_W, ([outC oa z τ] ++ (w ++ w1)).Perm (w1 ++ ([outC oa z τ] ++ w)) := fun w1 => by
    rw [← List.append_assoc]
    exact List.perm_append_comm
  refine rq_V (R := room_1) (rest := rest) C0.1 hM hG hd hw hyC hz hR hK hP hD hS (hpm wm) 0 hfs (rfl : vwCl[10]? = some (RX10, TX10, 18)) rfl hn hl hst hcat hdg hc (fun v w1 h => h.2.1) (fun v w1 H1 locs1 h hP1 hD1 hS1 => ?_)
  obtain ⟨⟨r, rfl, hr⟩, hw1⟩ := h
  refine tl_some ?_
  refine kk r w1 H1 locs1 hr hw1.2.1 hw1.2.2 ?_ (hP1.pm (hpm w1).symm) (hD1.pm (hpm w1).symm) hS1
  by_cases hk : k = 0
  · rw [hk]
    exact MW_t (hw1.2.1 hk)
  · exact MW_t (hw1.2.2 hk)
end MOD
/-- what the reference threw -/
theorem lw_T (C0 : LC p s m meth c b L xs g τ A) (hm : MT mm k wm) (hP : va_P g vwCl ([outC oa z τ] ++ (w ++ wm)) H) (hl : lv_has ls 7 lv) (hdg : decode cL_law pc = .ok (.invokevirtual 132, 3)) (hc : cells ≤ 601024 ∧ slots ≤ 7293034) (kk : W p l e room_1 s m #[Value.ref b] below meth c H locs cells slots QQ (F0 m (pc + 3) ls (.int (iI k) :: rest))) (hcat : (rest.map fun v => v.category).sum ≤ 8) : W p l e room_1 s m #[Value.ref b] below meth c H locs cells slots QQ (F0 m pc ls (.ref mm :: rest)) := by
  obtain ⟨ma, M, wr, rfl, rfl, rfl⟩ := hm
  have hP2 : va_P g vwCl [moO ma M] H := va_left (va_right (va_right hP))
  exact ro_V (R := room_1) (As := []) (rest := rest) C0.1 (c_X10_thrown l g τ ma M) gl_X10_thrown cd_X10_thrown rfl rfl ⟨rfl, rfl⟩ ⟨Nat.le_of_ble_eq_true rfl, Nat.le_of_ble_eq_true rfl⟩ C0.2.2.2.1 hP2 0 rfl (rfl : vwCl[10]? = some (RX10, TX10, 18)) rfl rfl hl rfl hcat hdg hc kk
/-- the checks -/
theorem lw_C (C0 : LC p s m meth c b L xs g τ A) (hd : tailAt pc off) {r : Int} (hm : MT mm k wm) (hz : k = 0 → z = (iI val).toInt64) (hr : k = 0 → r = val) (hk : 0 ≤ k ∧ k ≤ 3) (hP : va_P g vwCl ([outC oa z τ] ++ (w ++ wm)) H) (hl : lv_has ls 7 lv) (hlv : (6, Value.int (iI r)) :: lv.filter (fun q => !(q.1 == 6) && !(q.1 + 1 == 6 && q.2.category == 2)) = lv') (h5 : lv'[1]? = some (5, .int (iI k))) (h22 : lv'[4]? = some (2, .ref mm)) (h3 : lv'[3]? = some (3, .ref oa)) (h6 : lv'[0]? = some (6, .int (iI r))) (hc : cells ≤ 601024 ∧ slots ≤ 7293034)
    (kk : ∀ ls1 : Array Slot, lv_has ls1 7 lv' → W p l e room_1 s m #[Value.ref b] below meth c H locs cells slots QQ (F0 m 2441 ls1 [])) : W p l e room_1 s m #[Value.ref b] below meth c H locs cells slots QQ (F0 m pc ls [.int (iI r)]) := by
  obtain ⟨d0, d2, d3, d6, d8, d13, d15, d18, d19, d20, d21, d23, d24, d25, d30, hoff⟩ := hd
  have hx := C0.1.1
  have hb := C0.1.2.1
  refine lv_istore hx hb d0 hl (by decide) hlv (fun ls1 hl1 => ?_)
  refine lv_aload_n hx hb d2 rfl (lv_at hl1 4 h22) ?_
  refine lw_T C0 hm hP hl1 d3 hc ?_ (Nat.le_of_ble_eq_true rfl)
  refine lv_iload hx hb d6 (lv_at hl1 1 h5) ?_
  refine lv_icmp_eq (tgt := pc + 13) hx hb d8 (by omega) (fun _ => ?_) (fun q => absurd rfl q)
  refine lv_iload hx hb d13 (lv_at hl1 1 h5) ?_
  refine zi_if_ne (tgt := pc + 30) hx hb ⟨by omega, by omega⟩ d15 (by omega) (fun _ => ?_) (fun q => ?_)
  · refine lv_goto (tgt := 2441) hx hb d30 hoff ?_
    exact kk ls1 hl1
  · have hz := hz q
    have hr := hr q
    refine lv_aload_n hx hb d18 rfl (lv_at hl1 3 h3) ?_
    refine lv_iconst (v := iI 0) hx hb d19 rfl ?_
    refine va_lald (tys := tyL τ) hx hb C0.2.2.2.1.1 hP 0 5 rfl rfl (by show ¬ (iI 0 < 0 ∨ 1 ≤ (iI 0).toNatClampNeg); decide) d20 ?_
    refine lv_iload hx hb d21 (lv_at hl1 0 h6) ?_
    refine lv_i2l (v := (iI r).toInt64) hx hb d23 rfl ?_
    refine W.lcmp hx hb d24 ?_
    have e1 : (if (iI 0).toNatClampNeg = 0 then z else 0) = (iI r).toInt64 := by
      rw [if_pos (by decide), hz, hr]
    refine cv_i (y := iI 0) (by
      show lg_cmp (if (iI 0).toNatClampNeg = 0 then z else 0) (iI r).toInt64 = iI 0
      rw [e1, lg_same]) ?_
    refine zi_if_eq (tgt := pc + 30) hx hb ⟨by decide, by decide⟩ d25 (by omega) (fun _ => ?_) (fun q => absurd rfl q)
    refine lv_goto (tgt := 2441) hx hb d30 hoff ?_
    exact kk ls1 hl1
end LAW
