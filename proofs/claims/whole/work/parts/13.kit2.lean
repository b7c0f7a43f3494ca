/-! copying whole rows; moving a part of a row -/
theorem vp_cong {cA : ClassId} {n : Nat} {f g : Nat → Int32} (h : ∀ j, j < n → f j = g j) : vp_cell cA (n, .inl f) = vp_cell cA (n, .inl g) := by
  rw [vp_cell_i, vp_cell_i]
  unfold arrV
  congr 1
  apply Array.ext
  · simp
  · intro i h1 h2
    simp only [Array.getElem_ofFn]
    rw [h i (by simpa using h1)]
theorem set_P {D : va_G} {cl : List vw_C} {ws : va_W} {q a : Nat} {e1 e2 : va_E} {H : Heap} (h : va_P D cl (ws.set q (a, e1)) H) (he : va_at D cl (a, e1) H → va_at D cl (a, e2) H) : va_P D cl (ws.set q (a, e2)) H := by
  intro k z hk
  by_cases hq : q = k
  · subst hq
    have hlt : q < (ws.set q (a, e2)).length := (List.getElem?_eq_some_iff.mp hk).1
    rw [List.length_set] at hlt
    rw [List.getElem?_set_self hlt] at hk
    cases hk
    exact he (h q _ (by rw [List.getElem?_set_self hlt]))
  · rw [List.getElem?_set_ne hq] at hk
    exact h k z (by rw [List.getElem?_set_ne hq]; exact hk)
theorem set_D {A : Nat → Prop} {ws : va_W} {q a : Nat} {e1 e2 : va_E} (h : va_D A (ws.set q (a, e1))) : va_D A (ws.set q (a, e2)) := h.fst (by rw [List.map_set, List.map_set])
theorem iI_cl {n : Nat} (h : n < 2 ^ 31) : (iI (n : Int)).toNatClampNeg = n := by rw [iI_nat]; exact nI_clamp h
section ZC
variable {p : Program} {l : Launch} {e : Env} {R : Room} {s : State} {m : MethodId} {args : Array Value} {below : List Frame} {meth : Method} {c : Code} {H H0 : Heap} {locs : List Loc} {cells slots : Nat} {Q : State → Prop}
variable {cc : ByteArray} {nL pc index : Nat} {rest : List Value} {ls : Array Slot} {g : va_G} {τ : Nat → ClassId} {ws wo : va_W} {A A0 : Nat → Prop} {own : String}
theorem zi_copy (hx : p.tables.exec = Jvm.exec) (hb : c.code = cc) (hml : c.maxLocals = ls.size) (hown : s.vm.findClass own = some m.cls) (hlink : (Cond.methodLink own index arraycopyName).before args s = true) (hnat : (Cond.native arraycopyName).before args s = true) (hstat : (Cond.static arraycopyName).before args s = true) (hini : (Cond.initialized "java/lang/System").before args s = true)
    (hK : KK g τ s) (hP : va_P g vwCl ws H) (hD : va_D A ws) (hS : va_S A H0 H locs) (q0 q1 : Nat) {a0 a1 : Nat} {N : Nat} {f f1 : Nat → Int} (ha0 : ws[q0]? = some (a0, .inl (τ 0, N, .inl (fun j => iI (f j))))) (ha1 : ws[q1]? = some (a1, .inl (τ 0, N, .inl (fun j => iI (f1 j))))) {z : Int} (hz : z = (N : Int)) (hN : N < 2 ^ 31)
    (hframes : 1 ≤ R.frames) (hlocals : (rest.map fun v => v.category).sum + (nativeFrameWords "java/lang/System" "arraycopy" 5 + 11) ≤ R.locals) (hdg : decode cc pc = .ok (.invokestatic index, 3)) (hwo : ws.set q1 (a1, .inl (τ 0, N, .inl (fun j => iI (f j)))) = wo)
    (kk : ∀ (H1 : Heap) (locs1 : List Loc), va_P g vwCl wo H1 → va_D A wo → va_S A H0 H1 locs1 → W p l e R s m args below meth c H1 locs1 cells slots Q (F0 m (pc + 3) ls rest)) : W p l e R s m args below meth c H locs cells slots Q (F0 m pc ls (.int (iI z) :: .int (iI 0) :: .ref a1 :: .int (iI 0) :: .ref a0 :: rest)) := by
  subst hz; subst hwo
  have e0 : (iI 0).toNatClampNeg = 0 := by decide
  refine va_copyi (sp := iI 0) (dp := iI 0) (n := iI (N : Int)) (ty := .int) hx hb hml hown hlink hnat hstat hini hK.1 hP hD hS q0 q1 0 0 ha0 ha1 rfl rfl rfl (by decide) (by decide) (by rw [iI_nat]; exact nI_pos hN) (by rw [e0, iI_cl hN]; omega) (by rw [e0, iI_cl hN]; omega) (fun _ _ => rfl) hframes hlocals hdg (fun H1 locs1 hP1 hD1 hS1 => ?_)
  rw [e0, iI_cl hN] at hP1 hD1
  refine kk H1 locs1 (set_P hP1 fun h => ?_) (set_D hD1) hS1
  show H1[a1]? = some (vp_cell _ _)
  rw [← vp_cong (f := va_cpy (fun j => iI (f j)) (fun j => iI (f1 j)) 0 0 N) (fun j hj => ?_)]
  · exact h
  · rw [pk_cpy_in (Nat.zero_le j) (by omega)]
    simp
end ZC
def shl (f : Nat → Int) (a b : Nat) : Nat → Int := fun j => if a ≤ j ∧ j < b then f (j + 1) else f j
theorem shl_0 (f : Nat → Int) (a : Nat) : shl f a a = f := by
  funext j
  unfold shl
  rw [if_neg (by omega)]
theorem shl_s {f : Nat → Int} {a b : Nat} (h : a ≤ b) : updZ (shl f a b) b (shl f a b (b + 1)) = shl f a (b + 1) := by
  funext j
  unfold updZ shl
  by_cases q : j = b
  · subst q
    rw [if_pos rfl, if_neg (by omega), if_pos (by omega)]
  · rw [if_neg q]
    by_cases q2 : a ≤ j ∧ j < b
    · rw [if_pos q2, if_pos (by omega)]
    · rw [if_neg q2, if_neg (by omega)]
def shr (f : Nat → Int) (a b : Nat) : Nat → Int := fun j => if a < j ∧ j ≤ b then f (j - 1) else f j
theorem shr_0 (f : Nat → Int) (a : Nat) : shr f a a = f := by
  funext j
  unfold shr
  rw [if_neg (by omega)]
theorem shr_s {f : Nat → Int} {b z : Nat} (h0 : 0 < b) (h : b ≤ z) : updZ (shr f b z) b (shr f b z (b - 1)) = shr f (b - 1) z := by
  funext j
  unfold updZ shr
  by_cases q : j = b
  · subst q
    rw [if_pos rfl, if_neg (by omega), if_pos (by omega)]
  · rw [if_neg q]
    by_cases q2 : b < j ∧ j ≤ z
    · rw [if_pos q2, if_pos (by omega)]
    · rw [if_neg q2, if_neg (by omega)]
def zf (f : Nat → Int) (n : Nat) : Nat → Int := fun j => if j < n then 0 else f j
theorem zf_0 (f : Nat → Int) : zf f 0 = f := by
  funext j
  unfold zf
  rw [if_neg (by omega)]
theorem zf_s (f : Nat → Int) (n : Nat) : updZ (zf f n) n 0 = zf f (n + 1) := by
  funext j
  unfold updZ zf
  by_cases q : j = n
  · subst q; rw [if_pos rfl, if_pos (by omega)]
  · rw [if_neg q]
    by_cases q2 : j < n
    · rw [if_pos q2, if_pos (by omega)]
    · rw [if_neg q2, if_neg (by omega)]
/-- bounds of all rows -/
def HB (R : Nat → Nat → Int) : Prop := ∀ k j, -1 ≤ R k j ∧ R k j < 65536
theorem HB_u {R : Nat → Nat → Int} (h : HB R) {k : Nat} {f : Nat → Int} (hf : ∀ j, -1 ≤ f j ∧ f j < 65536) : HB (u2 R k f) := fun k2 j => by
  unfold u2
  split
  · exact hf j
  · exact h k2 j
theorem HB_upd {f : Nat → Int} (h : ∀ j, -1 ≤ f j ∧ f j < 65536) {k : Nat} {z : Int} (hz : -1 ≤ z ∧ z < 65536) : ∀ j, -1 ≤ updZ f k z j ∧ updZ f k z j < 65536 := fun j => by
  unfold updZ
  split
  · exact hz
  · exact h j
theorem HB_shl {f : Nat → Int} (h : ∀ j, -1 ≤ f j ∧ f j < 65536) {a b : Nat} : ∀ j, -1 ≤ shl f a b j ∧ shl f a b j < 65536 := fun j => by
  unfold shl
  split
  · exact h _
  · exact h j
theorem HB_shr {f : Nat → Int} (h : ∀ j, -1 ≤ f j ∧ f j < 65536) {a b : Nat} : ∀ j, -1 ≤ shr f a b j ∧ shr f a b j < 65536 := fun j => by
  unfold shr
  split
  · exact h _
  · exact h j
theorem HB_c {f : Nat → Int} {z : Int} (hz : -1 ≤ z ∧ z < 65536) : ∀ _ : Nat, -1 ≤ z ∧ z < 65536 := fun _ => hz
/-! what the shelves' actions make -/
def rmR (R : Nat → Nat → Int) (s : Int) : Nat → Nat → Int := if sOf R s < 6 then u2 (u2 R 19 (shl (R 19) (sOf R s * 6 + pOn R (sOf R s) s) (sOf R s * 6 + (shN R (sOf R s) - 1)))) 18 (updZ (R 18) (sOf R s) (R 18 (sOf R s) - 1)) else R
def inR (R : Nat → Nat → Int) (h k : Nat) (z : Int) : Nat → Nat → Int := u2 (u2 R 19 (updZ (shr (R 19) (h * 6 + k) (h * 6 + shN R h)) (h * 6 + k) z)) 18 (updZ (R 18) h (R 18 h + 1))
