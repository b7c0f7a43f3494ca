/-! constructors that make rows of objects -/
def nu {α : Type} (v : Nat → α) (i : Nat) (q : α) : Nat → α := fun j => if j = i then q else v j
def bk {α : Type} (B : α → va_W) (v : Nat → α) : Nat → va_W
  | 0 => []
  | i + 1 => bk B v i ++ B (v i)
def fN (v : Nat → Nat) (n : Nat) : Nat → Option Nat := fun j => if j < n then some (v j) else none
theorem bk_cg {α : Type} (B : α → va_W) {v v2 : Nat → α} : ∀ n : Nat, (∀ j, j < n → v j = v2 j) → bk B v n = bk B v2 n
  | 0, _ => rfl
  | n + 1, h => by
    show bk B v n ++ B (v n) = bk B v2 n ++ B (v2 n)
    rw [bk_cg B n (fun j hj => h j (by omega)), h n (by omega)]
theorem bk_up {α : Type} (B : α → va_W) (v : Nat → α) (i : Nat) (q : α) : bk B (nu v i q) (i + 1) = bk B v i ++ B q := by
  show bk B (nu v i q) i ++ B (nu v i q i) = _
  have h1 : bk B (nu v i q) i = bk B v i := bk_cg B i (fun j hj => by
    show (if j = i then q else v j) = v j
    exact if_neg (by omega))
  have h2 : nu v i q i = q := if_pos rfl
  rw [h1, h2]
theorem bk_add {α : Type} (B : α → va_W) (v : Nat → α) (m : Nat) : ∀ n : Nat, bk B v (m + n) = bk B v m ++ bk B (fun j => v (m + j)) n
  | 0 => (List.append_nil _).symm
  | n + 1 => by
    show bk B v (m + n) ++ B (v (m + n)) = bk B v m ++ (bk B (fun j => v (m + j)) n ++ B (v (m + n)))
    rw [bk_add B v m n, List.append_assoc]
theorem fN_0 (v : Nat → Nat) : fN v 0 = fun _ => none := rfl
theorem fN_up (v : Nat → Nat) (i q : Nat) : va_up (fN v i) i (some q) = fN (nu v i q) (i + 1) := by
  funext j
  unfold va_up fN nu
  by_cases h : j = i
  · subst h
    rw [if_pos rfl, if_pos (by omega), if_pos rfl]
  · rw [if_neg h]
    by_cases h2 : j < i
    · rw [if_pos h2, if_pos (by omega), if_neg h]
    · rw [if_neg h2, if_neg (by omega)]
theorem n_at {x : Nat × va_E} {a t : va_W} : (a ++ (x :: t))[a.length]? = some x := by
  rw [List.getElem?_append_right (Nat.le_refl _), Nat.sub_self]
  rfl
theorem pm_ax (C X c : va_W) : ((C ++ X) ++ c).Perm ((C ++ c) ++ X) := by
  rw [List.append_assoc, List.append_assoc]
  exact (List.perm_append_comm).append_left C
theorem vp_congq {cA : ClassId} {n : Nat} {f g : Nat → Option Nat} (h : ∀ j, j < n → f j = g j) : vp_cell cA (n, .inr (.inr (.inr (.inr f)))) = vp_cell cA (n, .inr (.inr (.inr (.inr g)))) := by
  rw [vp_cell_q, vp_cell_q]
  unfold arrV
  congr 1
  apply Array.ext
  · simp
  · intro i h1 h2
    simp only [Array.getElem_ofFn]
    rw [h i (by simpa using h1)]
theorem oa_P {D : va_G} {cl : List vw_C} {ws wo : va_W} {H : Heap} {q a N : Nat} {t : ClassId} {f f2 : Nat → Option Nat} (h : va_P D cl ws H) (ha : ws[q]? = some (a, .inl (t, N, .inr (.inr (.inr (.inr f)))))) (e : ∀ j, j < N → f j = f2 j) (hw : ws.set q (a, .inl (t, N, .inr (.inr (.inr (.inr f2))))) = wo) : va_P D cl wo H := by
  subst hw
  intro k z hk
  by_cases hq : q = k
  · subst hq
    have hlt : q < (ws.set q (a, .inl (t, N, .inr (.inr (.inr (.inr f2)))))).length := (List.getElem?_eq_some_iff.mp hk).1
    rw [List.length_set] at hlt
    rw [List.getElem?_set_self hlt] at hk
    cases hk
    have h1 : H[a]? = some (vp_cell t (N, .inr (.inr (.inr (.inr f))))) := h q _ ha
    show H[a]? = some (vp_cell t (N, .inr (.inr (.inr (.inr f2)))))
    rw [h1, vp_congq e]
  · rw [List.getElem?_set_ne hq] at hk
    exact h k z hk
theorem oa_D {A : Nat → Prop} {ws wo : va_W} {q a : Nat} {e1 e2 : va_E} (h : va_D A ws) (ha : ws[q]? = some (a, e1)) (hw : ws.set q (a, e2) = wo) : va_D A wo := by
  subst hw
  refine h.fst ?_
  refine List.ext_getElem? fun k => ?_
  rw [List.getElem?_map, List.getElem?_map]
  by_cases hk : q = k
  · subst hk
    rw [List.getElem?_set_self (List.getElem?_eq_some_iff.mp ha).1, ha]
    rfl
  · rw [List.getElem?_set_ne hk]
section NL
variable {p : Program} {l : Launch} {e : Env} {R : Room} {s : State} {m : MethodId} {args : Array Value} {below : List Frame} {meth : Method} {c : Code} {H H0 : Heap} {locs : List Loc} {cells slots : Nat} {Q : State → Prop}
variable {cc : ByteArray} {nL pc : Nat} {rest : List Value} {ls : Array Slot} {g : va_G} {τ : Nat → ClassId} {ws wo : va_W} {A A0 : Nat → Prop}
/-- a loop that makes cells: dc cells, ds slots each time -/
theorem lp_upN {α : Type} (lv : Nat → List (Nat × Value)) (w : Nat → α → va_W) (N c0 s0 dc ds : Nat) (x0 : α) {st : List Value} (hP : va_P g vwCl (w 0 x0) H) (hD : va_D A (w 0 x0)) (hS : va_S A H0 H locs) (hl : lv_has ls nL (lv 0))
    (step : ∀ i, i ≤ N → ∀ x, (i < N → ∀ x' H' locs' ls', va_P g vwCl (w (i + 1) x') H' → va_D A (w (i + 1) x') → va_S A H0 H' locs' → lv_has ls' nL (lv (i + 1)) → W p l e R s m args below meth c H' locs' (c0 + i * dc + dc) (s0 + i * ds + ds) Q (F0 m pc ls' st)) → ∀ H' locs', va_P g vwCl (w i x) H' → va_D A (w i x) → va_S A H0 H' locs' → ∀ ls', lv_has ls' nL (lv i) → W p l e R s m args below meth c H' locs' (c0 + i * dc) (s0 + i * ds) Q (F0 m pc ls' st)) : W p l e R s m args below meth c H locs c0 s0 Q (F0 m pc ls st) := by
  have key : ∀ n i, i ≤ N → N - i ≤ n → ∀ x, ∀ H' locs', va_P g vwCl (w i x) H' → va_D A (w i x) → va_S A H0 H' locs' → ∀ ls', lv_has ls' nL (lv i) → W p l e R s m args below meth c H' locs' (c0 + i * dc) (s0 + i * ds) Q (F0 m pc ls' st) := by
    intro n
    induction n with
    | zero => intro i h2 h3 x H' locs' a1 a2 a3 ls' hl'; exact step i h2 x (fun h => by omega) H' locs' a1 a2 a3 ls' hl'
    | succ n ih =>
      intro i h2 h3 x H' locs' a1 a2 a3 ls' hl'
      refine step i h2 x (fun h x2 H2 l2 ls2 b1 b2 b3 hl2 => ?_) H' locs' a1 a2 a3 ls' hl'
      have := ih (i + 1) (by omega) (by omega) x2 H2 l2 b1 b2 b3 ls2 hl2
      rw [Nat.succ_mul, Nat.succ_mul, ← Nat.add_assoc, ← Nat.add_assoc] at this
      exact this
  have h0 := key N 0 (Nat.zero_le _) (by omega) x0 H locs hP hD hS ls hl
  rw [Nat.zero_mul, Nat.zero_mul, Nat.add_zero, Nat.add_zero] at h0
  exact h0
/-- a store of a new object into a row of objects -/
theorem n_ast (hx : p.tables.exec = Jvm.exec) (hb : c.code = cc) (hK : KK g τ s) (hP : va_P g vwCl ws H) (hD : va_D A ws) (hS : va_S A H0 H locs) (q0 t0 qk ci : Nat) {r : vw_C} {aa N b : Nat} {vs : List Value} {f : Nat → Option Nat} (ha : ws[q0]? = some (aa, .inl (τ t0, N, .inr (.inr (.inr (.inr f)))))) (ht : (tyL τ)[t0]? = some (τ t0, .object r.1)) (hv : ws[qk]? = some (b, .inr (ci, vs))) (hc : vwCl[ci]? = some r) {i : Int} (k : Nat) (hi : i = (k : Int)) (hk : k < N) (hN : N < 2 ^ 31) (d : decode cc pc = .ok (.aastore, 1)) (hwo : ws.set q0 (aa, .inl (τ t0, N, .inr (.inr (.inr (.inr (va_up f k (some b))))))) = wo)
    (kk : ∀ (H1 : Heap) (locs1 : List Loc), va_P g vwCl wo H1 → va_D A wo → va_S A H0 H1 locs1 → W p l e R s m args below meth c H1 locs1 cells slots Q (F0 m (pc + 1) ls rest)) : W p l e R s m args below meth c H locs cells slots Q (F0 m pc ls (.ref b :: .int (iI i) :: .ref aa :: rest)) := by
  subst hi; subst hwo
  refine va_astq (i := iI (k : Int)) (r := r) hx hb hK.1 hP hD hS q0 t0 qk ci ha ht hv hc (by rw [iI_nat]; exact vp_in_nI hk hN) d ?_
  rw [iI_cl (Nat.lt_trans hk hN)]
  exact kk
end NL
/-! what the judge's row of Years is -/
def Y1 (a : Nat) : va_W := [yC a 0 0 0]
theorem bk_yr (v : Nat → Nat) : ∀ n : Nat, bk Y1 v n = (List.range n).map (fun i => yC (v i) 0 0 0)
  | 0 => rfl
  | n + 1 => by
    rw [List.range_succ, List.map_append]
    show bk Y1 v n ++ Y1 (v n) = _
    rw [bk_yr v n]
    rfl
def ajF (h0 q0 q1 q2 q3 q4 q5 : Nat) (v u : Nat → Nat) : Nat → Nat := fun k => if k < 10 then ([h0, q0, q1, q2, q3, q4] : List Nat).getD k 0 else if k < 34 then v (k - 10) else if k < 40 then u (k - 34) else q5
theorem juY_0 (h0 q0 q1 q2 q3 q4 q5 : Nat) (v u : Nat → Nat) : juY (ajF h0 q0 q1 q2 q3 q4 q5 v u) (fun _ _ => 0) = (bk Y1 v 24 ++ bk Y1 u 6) ++ [yC q5 0 0 0] := by
  have e : juY (ajF h0 q0 q1 q2 q3 q4 q5 v u) (fun _ _ => 0) = bk Y1 (fun i => ajF h0 q0 q1 q2 q3 q4 q5 v u (10 + i)) (24 + (6 + 1)) := (bk_yr _ _).symm
  rw [e, bk_add, bk_add, ← List.append_assoc]
  have e1 : bk Y1 (fun i => ajF h0 q0 q1 q2 q3 q4 q5 v u (10 + i)) 24 = bk Y1 v 24 := bk_cg Y1 24 (fun j hj => by
    show ajF h0 q0 q1 q2 q3 q4 q5 v u (10 + j) = v j
    unfold ajF
    rw [if_neg (by omega), if_pos (by omega), Nat.add_sub_cancel_left])
  have e2 : bk Y1 (fun j => ajF h0 q0 q1 q2 q3 q4 q5 v u (10 + (24 + j))) 6 = bk Y1 u 6 := bk_cg Y1 6 (fun j hj => by
    show ajF h0 q0 q1 q2 q3 q4 q5 v u (10 + (24 + j)) = u j
    unfold ajF
    rw [if_neg (by omega), if_neg (by omega), if_pos (by omega), show 10 + (24 + j) - 34 = j from by omega])
  rw [e1, e2]
  rfl
