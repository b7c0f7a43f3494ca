/-! the reference's object: M k is its field k; its rows -/
def moO (ma : Nat → Nat) (M : Nat → Int) : Nat × va_E := (ma 0, .inr (10, [.int (iI (M 0)), .ref (ma 1), .ref (ma 2), .ref (ma 3), .ref (ma 4), .int (iI (M 5)), .ref (ma 6), .ref (ma 7), .ref (ma 8), .int (iI (M 9)), .int (iI (M 10)), .int (iI (M 11)), .int (iI (M 12)), .int (iI (M 13)), .int (iI (M 14)), .int (iI (M 15)), .int (iI (M 16)), .ref (ma 17)]))
def arC (a : Nat) (t : ClassId) (N : Nat) (f : Nat → Int) : Nat × va_E := (a, .inl (t, N, .inl (fun j => iI (f j))))
def AG (M M2 : Nat → Int) : Prop := ∀ k, k < 13 → M2 k = M k
theorem AG_r (M : Nat → Int) : AG M M := fun _ _ => rfl
theorem AG_t {M M1 M2 : Nat → Int} (h : AG M M1) (h2 : AG M1 M2) : AG M M2 := fun k hk => (h2 k hk).trans (h k hk)
theorem AG_u {M M1 : Nat → Int} (h : AG M M1) {k : Nat} (hk : 13 ≤ k) {z : Int} : AG M (updZ M1 k z) := fun j hj => by
  unfold updZ
  rw [if_neg (by omega)]
  exact h j hj
theorem f_fl (fa : Nat) (R R2 : Nat → Nat → Int) (τ : Nat → ClassId) : (flW fa R2 τ).map Prod.fst = (flW fa R τ).map Prod.fst := rfl
theorem f_mo (ma : Nat → Nat) (M M2 : Nat → Int) (X : va_W) : (moO ma M2 :: X).map Prod.fst = (moO ma M :: X).map Prod.fst := rfl
theorem ar_P {D : va_G} {ws wo : va_W} {H : Heap} {q a N : Nat} {t : ClassId} {f f2 : Nat → Int} (h : va_P D vwCl ws H) (ha : ws[q]? = some (a, .inl (t, N, .inl (fun j => iI (f j))))) (e : ∀ j, j < N → f j = f2 j) (hw : ws.set q (arC a t N f2) = wo) : va_P D vwCl wo H := by
  subst hw
  intro k z hk
  by_cases hq : q = k
  · subst hq
    have hlt : q < (ws.set q (arC a t N f2)).length := (List.getElem?_eq_some_iff.mp hk).1
    rw [List.length_set] at hlt
    rw [List.getElem?_set_self hlt] at hk
    cases hk
    have h1 : H[a]? = some (vp_cell t (N, .inl (fun j => iI (f j)))) := h q _ ha
    show H[a]? = some (vp_cell t (N, .inl (fun j => iI (f2 j))))
    rw [← vp_cong (f := fun j => iI (f j)) (fun j hj => by rw [e j hj])]
    exact h1
  · rw [List.getElem?_set_ne hq] at hk
    exact h k z hk
theorem ar_D {A : Nat → Prop} {ws wo : va_W} {q a N : Nat} {t : ClassId} {e1 : va_E} {f2 : Nat → Int} (h : va_D A ws) (ha : ws[q]? = some (a, e1)) (hw : ws.set q (arC a t N f2) = wo) : va_D A wo := by
  subst hw
  refine h.fst ?_
  rw [List.map_set]
  refine List.ext_getElem? fun k => ?_
  by_cases hq : q = k
  · subst hq
    have hlt := (List.getElem?_eq_some_iff.mp ha).1
    rw [List.getElem?_set_self (by rw [List.length_map]; exact hlt), List.getElem?_map, ha]
    rfl
  · rw [List.getElem?_set_ne hq]
section LX
variable {p : Program} {l : Launch} {e : Env} {R : Room} {s : State} {m : MethodId} {args : Array Value} {below : List Frame} {meth : Method} {c : Code} {H H0 : Heap} {locs : List Loc} {cells slots : Nat} {Q : State → Prop}
variable {cc : ByteArray} {nL pc : Nat} {rest : List Value} {ls : Array Slot} {g : va_G} {τ : Nat → ClassId} {A : Nat → Prop}
/-- a loop whose world holds something that isn't counted -/
theorem lp_upX {α : Type} (lv : Nat → List (Nat × Value)) (w : Nat → α → va_W) (I : Nat → α → Prop) (N i0 : Nat) (x0 : α) (h0 : i0 ≤ N) {st : List Value} (hP : va_P g vwCl (w i0 x0) H) (hD : va_D A (w i0 x0)) (hS : va_S A H0 H locs) (hI : I i0 x0) (hl : lv_has ls nL (lv i0))
    (step : ∀ i, i0 ≤ i → i ≤ N → ∀ x, I i x → (i < N → ∀ x', I (i + 1) x' → ∀ H' locs' ls', va_P g vwCl (w (i + 1) x') H' → va_D A (w (i + 1) x') → va_S A H0 H' locs' → lv_has ls' nL (lv (i + 1)) → W p l e R s m args below meth c H' locs' cells slots Q (F0 m pc ls' st)) → ∀ H' locs', va_P g vwCl (w i x) H' → va_D A (w i x) → va_S A H0 H' locs' → ∀ ls', lv_has ls' nL (lv i) → W p l e R s m args below meth c H' locs' cells slots Q (F0 m pc ls' st)) : W p l e R s m args below meth c H locs cells slots Q (F0 m pc ls st) := by
  have key : ∀ n i, i0 ≤ i → i ≤ N → N - i ≤ n → ∀ x, I i x → ∀ H' locs', va_P g vwCl (w i x) H' → va_D A (w i x) → va_S A H0 H' locs' → ∀ ls', lv_has ls' nL (lv i) → W p l e R s m args below meth c H' locs' cells slots Q (F0 m pc ls' st) := by
    intro n
    induction n with
    | zero => intro i h1 h2 h3 x hI H' locs' a1 a2 a3 ls' hl'; exact step i h1 h2 x hI (fun h => by omega) H' locs' a1 a2 a3 ls' hl'
    | succ n ih => intro i h1 h2 h3 x hI H' locs' a1 a2 a3 ls' hl'; exact step i h1 h2 x hI (fun h x2 hI2 H2 l2 ls2 b1 b2 b3 hl2 => ih (i + 1) (by omega) (by omega) (by omega) x2 hI2 H2 l2 b1 b2 b3 ls2 hl2) H' locs' a1 a2 a3 ls' hl'
  exact key (N - i0) i0 (Nat.le_refl _) h0 (Nat.le_refl _) x0 hI H locs hP hD hS ls hl
end LX
theorem u2_cm (R : Nat → Nat → Int) {j k : Nat} (f h : Nat → Int) (hn : ¬ j = k) : u2 (u2 R j f) k h = u2 (u2 R k h) j f := by
  funext i
  unfold u2
  by_cases a : i = j
  · subst a; rw [if_neg hn, if_pos rfl, if_pos rfl]
  · rw [if_neg a, if_neg a]
theorem u2_sm (R : Nat → Nat → Int) (k : Nat) (f h : Nat → Int) : u2 (u2 R k f) k h = u2 R k h := by
  funext i
  unfold u2
  split <;> rfl
theorem u2_at (R : Nat → Nat → Int) (k : Nat) (f : Nat → Int) : u2 R k f k = f := if_pos rfl
theorem u2_s (R : Nat → Nat → Int) (k : Nat) : u2 R k (R k) = R := by
  funext i
  unfold u2
  split
  · rename_i h; rw [h]
  · rfl
theorem rm_alt {R : Nat → Nat → Int} {z : Int} (h : sOf R z < 6) : rmR R z = u2 (u2 R 18 (updZ (R 18) (sOf R z) (R 18 (sOf R z) - 1))) 19 (shl (R 19) (sOf R z * 6 + pOn R (sOf R z) z) (sOf R z * 6 + (shN R (sOf R z) - 1))) := by
  rw [rmR, if_pos h, u2_cm _ _ _ (by decide)]
theorem rm_none {R : Nat → Nat → Int} {z : Int} (h : ¬ sOf R z < 6) : rmR R z = R := by rw [rmR, if_neg h]
theorem rt_s (R : Nat → Nat → Int) (f : Nat → Int) {a b : Nat} (h : a ≤ b) : u2 (u2 R 19 (shl f a b)) 19 (updZ (shl f a b) b (shl f a b (b + 1))) = u2 R 19 (shl f a (b + 1)) := by
  rw [shl_s h, u2_sm]
theorem rt_0 (R : Nat → Nat → Int) (f : Nat → Int) (a : Nat) : u2 (u2 R 18 f) 19 (shl (R 19) a a) = u2 R 18 f := by
  rw [shl_0]
  exact u2_s (u2 R 18 f) 19
theorem rs_s (R : Nat → Nat → Int) {b z : Nat} (h0 : 0 < b) (h : b ≤ z) : u2 (u2 R 19 (shr (R 19) b z)) 19 (updZ (shr (R 19) b z) b (shr (R 19) b z (b - 1))) = u2 R 19 (shr (R 19) (b - 1) z) := by
  rw [shr_s h0 h, u2_sm]
theorem rs_0 (R : Nat → Nat → Int) (a : Nat) : u2 R 19 (shr (R 19) a a) = R := by
  rw [shr_0]
  exact u2_s R 19
def R0z : Nat → Nat → Int := u2 (fun _ _ => 0) 20 (updZ (updZ (fun _ => 0) 0 10) 1 3)
theorem R0z_0 (k j : Nat) (h : ¬ k = 20) : R0z k j = 0 := by
  show (if k = 20 then updZ (updZ (fun _ => 0) 0 10) 1 3 else (fun _ => 0)) j = 0
  rw [if_neg h]
theorem fr_eq (f : Nat → Int) : ∀ j, j < 291 → updZ (updZ (zf f 291) 3 10) 4 3 j = flR R0z j := fun j hj => by
  have hz : ∀ k i, ¬ k = 20 → 0 = R0z k i := fun k i h => Eq.symm (R0z_0 k i h)
  by_cases h4 : j = 4
  · subst h4; rfl
  · rw [ud_n h4]
    by_cases h3 : j = 3
    · subst h3; rfl
    · rw [ud_n h3]
      unfold zf
      rw [if_pos hj]
      unfold flR
      by_cases h1 : j < 1
      · rw [if_pos h1]; exact hz 1 _ (by decide)
      rw [if_neg h1]
      by_cases h2 : j < 2
      · rw [if_pos h2]; exact hz 4 _ (by decide)
      rw [if_neg h2]
      by_cases h3 : j < 3
      · rw [if_pos h3]; exact hz 10 _ (by decide)
      rw [if_neg h3]
      by_cases h5 : j < 5
      · rw [if_pos h5]; exfalso; omega
      rw [if_neg h5]
      by_cases h15 : j < 15
      · rw [if_pos h15]; exact hz 2 _ (by decide)
      rw [if_neg h15]
      by_cases h25 : j < 25
      · rw [if_pos h25]; exact hz 3 _ (by decide)
      rw [if_neg h25]
      by_cases h35 : j < 35
      · rw [if_pos h35]; exact hz 5 _ (by decide)
      rw [if_neg h35]
      by_cases h45 : j < 45
      · rw [if_pos h45]; exact hz 6 _ (by decide)
      rw [if_neg h45]
      by_cases h55 : j < 55
      · rw [if_pos h55]; exact hz 7 _ (by decide)
      rw [if_neg h55]
      by_cases h65 : j < 65
      · rw [if_pos h65]; exact hz 8 _ (by decide)
      rw [if_neg h65]
      by_cases h105 : j < 105
      · rw [if_pos h105]; exact hz 9 _ (by decide)
      rw [if_neg h105]
      by_cases h129 : j < 129
      · rw [if_pos h129]; exact hz 11 _ (by decide)
      rw [if_neg h129]
      by_cases h153 : j < 153
      · rw [if_pos h153]; exact hz 12 _ (by decide)
      rw [if_neg h153]
      by_cases h177 : j < 177
      · rw [if_pos h177]; exact hz 13 _ (by decide)
      rw [if_neg h177]
      by_cases h201 : j < 201
      · rw [if_pos h201]; exact hz 14 _ (by decide)
      rw [if_neg h201]
      by_cases h225 : j < 225
      · rw [if_pos h225]; exact hz 15 _ (by decide)
      rw [if_neg h225]
      by_cases h249 : j < 249
      · rw [if_pos h249]; exact hz 16 _ (by decide)
      rw [if_neg h249]
      by_cases h255 : j < 255
      · rw [if_pos h255]; exact hz 18 _ (by decide)
      rw [if_neg h255]
      exact hz 19 _ (by decide)
def cpf (R : Nat → Nat → Int) (f : Nat → Int) (i : Nat) : Nat → Int := fun j => if j < i then flR R j else f j
theorem cpf_0 (R : Nat → Nat → Int) (f : Nat → Int) : cpf R f 0 = f := by
  funext j
  unfold cpf
  rw [if_neg (by omega)]
theorem cpf_s (R : Nat → Nat → Int) (f : Nat → Int) (i : Nat) : updZ (cpf R f i) i (flR R i) = cpf R f (i + 1) := by
  funext j
  unfold updZ cpf
  by_cases q : j = i
  · subst q; rw [if_pos rfl, if_pos (by omega)]
  · rw [if_neg q]
    by_cases q2 : j < i
    · rw [if_pos q2, if_pos (by omega)]
    · rw [if_neg q2, if_neg (by omega)]
theorem cpf_e (R : Nat → Nat → Int) (f : Nat → Int) : ∀ j, j < 291 → cpf R f 291 j = flR R j := fun j hj => if_pos hj
/-! the reference's charters, fakes -/
def gP (R : Nat → Nat → Int) (c w : Int) (s : Nat) : Bool := decide (R 16 s = c ∧ ¬ (s : Int) = w ∧ ownA R s = 0)
def gL (R : Nat → Nat → Int) (c w : Int) : Nat → Int
  | 0 => 1000
  | s + 1 => if gP R c w s = true then (if gL R c w s < sLo R s then sLo R s else gL R c w s) else gL R c w s
def gH (R : Nat → Nat → Int) (c w : Int) : Nat → Int
  | 0 => 1999
  | s + 1 => if gP R c w s = true then (if sHi R s < gH R c w s then sHi R s else gH R c w s) else gH R c w s
def gM (R : Nat → Nat → Int) (c w : Int) : Nat → Int
  | 0 => 0
  | s + 1 => if gP R c w s = true then zor (gM R c w s) (rMask R s) else gM R c w s
def ga4 (M : Nat → Int) (a b c d : Int) : Nat → Int := updZ (updZ (updZ (updZ M 13 a) 14 b) 15 c) 16 d
def gaM (R : Nat → Nat → Int) (c w : Int) (n : Nat) (M : Nat → Int) : Nat → Int := ga4 M (gL R c w n) (gH R c w n) (gM R c w n) (cnt (gP R c w) n)
theorem gL_b {R : Nat → Nat → Int} (hI : SI R) (c w : Int) : ∀ n, -1 ≤ gL R c w n ∧ gL R c w n < 65536
  | 0 => by show -1 ≤ (1000 : Int) ∧ (1000 : Int) < 65536; decide
  | n + 1 => by
    have := gL_b hI c w n
    have := sLo_b hI n
    unfold gL
    repeat' split
    all_goals omega
theorem gH_b {R : Nat → Nat → Int} (hI : SI R) (c w : Int) : ∀ n, -1 ≤ gH R c w n ∧ gH R c w n < 65536
  | 0 => by show -1 ≤ (1999 : Int) ∧ (1999 : Int) < 65536; decide
  | n + 1 => by
    have := gH_b hI c w n
    have := sHi_b hI n
    unfold gH
    repeat' split
    all_goals omega
theorem zor_b {a b : Int} (ha : 0 ≤ a ∧ a < 256) (hb : 0 ≤ b ∧ b < 256) : 0 ≤ zor a b ∧ zor a b < 256 := by
  unfold zor
  have : a.toNat ||| b.toNat < 2 ^ 8 := Nat.or_lt_two_pow (by omega) (by omega)
  omega
theorem rMask_8 {R : Nat → Nat → Int} {s : Nat} (h : -1 ≤ R 13 s ∧ R 13 s ≤ 7) : 0 ≤ rMask R s ∧ rMask R s < 256 := by
  have p : ∀ m, m < 8 → 0 < (2 : Int) ^ m ∧ (2 : Int) ^ m < 256 := by decide
  unfold rMask
  split
  · omega
  · have := p (R 13 s).toNat (by omega)
    omega
theorem gM_b {R : Nat → Nat → Int} (hI : SI R) (c w : Int) : ∀ n : Nat, (n : Int) ≤ R 10 0 → 0 ≤ gM R c w n ∧ gM R c w n < 256
  | 0, _ => by show (0 : Int) ≤ 0 ∧ (0 : Int) < 256; decide
  | n + 1, h => by
    have h1 := gM_b hI c w n (by omega)
    have h2 := rMask_8 (hI.sl n (by omega)).2.2.1
    unfold gM
    split
    · exact zor_b h1 h2
    · exact h1
def rCh (R : Nat → Nat → Int) (c w q : Int) : Int := if cnt (gP R c w) (R 10 0).toNat = 0 then (if q = 2 then 0 else -1) else rY R (gL R c w (R 10 0).toNat) (gH R c w (R 10 0).toNat) (gM R c w (R 10 0).toNat) q
theorem rCh_b {R : Nat → Nat → Int} (hI : SI R) (c w q : Int) : -2 ≤ rCh R c w q ∧ rCh R c w q < 1000000 := by
  have := rY_b hI (lo := gL R c w (R 10 0).toNat) (hi := gH R c w (R 10 0).toNat) (w := gM R c w (R 10 0).toNat) (gL_b hI _ _ _) (gH_b hI _ _ _) q
  unfold rCh
  repeat' split
  all_goals omega
def rFk (R : Nat → Nat → Int) (s : Nat) : Int := if ownA R s = 0 ∧ ¬ R 16 s = -1 ∧ rCh R (R 16 s) (-1) 2 = 0 then 4 else ownA R s
theorem ownA_b (R : Nat → Nat → Int) (s : Nat) : 0 ≤ ownA R s ∧ ownA R s ≤ 3 := by
  unfold ownA
  repeat' split
  all_goals omega
theorem rFk_b (R : Nat → Nat → Int) (s : Nat) : 0 ≤ rFk R s ∧ rFk R s ≤ 4 := by
  have := ownA_b R s
  unfold rFk
  split <;> omega
def rFks (R : Nat → Nat → Int) : Nat → Int := cnt (fun s => decide (0 < rFk R s))
def y0 (R : Nat → Nat → Int) (s : Nat) : Int := rY R (sLo R s) (sHi R s) (rMask R s) 0
theorem y0_b {R : Nat → Nat → Int} (hI : SI R) (s : Nat) : -2 ≤ y0 R s ∧ y0 R s < 1000000 := rY_b hI (sLo_b hI _) (sHi_b hI _) 0
def rBf (R : Nat → Nat → Int) (h : Nat) : Nat → Int
  | 0 => -1
  | k + 1 => if rFk R (R 19 (h * 6 + k)).toNat = 0 then (if rBf R h k < y0 R (R 19 (h * 6 + k)).toNat then y0 R (R 19 (h * 6 + k)).toNat else rBf R h k) else rBf R h k
def rIs (R : Nat → Nat → Int) (h : Nat) : Nat → Bool
  | 0 => true
  | k + 1 => if rFk R (R 19 (h * 6 + k)).toNat = 0 then (rIs R h k && decide (rBf R h k ≤ y0 R (R 19 (h * 6 + k)).toNat)) else rIs R h k
theorem rBf_b {R : Nat → Nat → Int} (hI : SI R) (h : Nat) : ∀ n, -1 ≤ rBf R h n ∧ rBf R h n < 1000000
  | 0 => by show -1 ≤ (-1 : Int) ∧ (-1 : Int) < 1000000; decide
  | n + 1 => by
    have := rBf_b hI h n
    have := y0_b hI (R 19 (h * 6 + n)).toNat
    unfold rBf
    repeat' split
    all_goals omega
def rBad (R : Nat → Nat → Int) : Nat → Int := cnt (fun h => !(rIs R h (R 18 h).toNat))
def rRk (R : Nat → Nat → Int) (s : Nat) : Int := if 0 < rFk R s then 2000 else y0 R s
theorem rRk_b {R : Nat → Nat → Int} (hI : SI R) (s : Nat) : -2 ≤ rRk R s ∧ rRk R s < 1000000 := by
  have := y0_b hI s
  unfold rRk
  split <;> omega
/-! the reference's sorting -/
def oAt (R : Nat → Nat → Int) (h k : Nat) : Int := rRk R (R 19 (h * 6 + k)).toNat
def oAh (R : Nat → Nat → Int) (h k : Nat) : Nat → Int := cnt (fun i => decide (oAt R h i < oAt R h k ∨ oAt R h i = oAt R h k ∧ i < k))
def oPl (R : Nat → Nat → Int) (h : Nat) (P : Nat → Int) : Nat → Nat → Int
  | 0 => P
  | k + 1 => updZ (oPl R h P k) (oAh R h k (R 18 h).toNat).toNat (R 19 (h * 6 + k))
def oN (R : Nat → Nat → Int) (h : Nat) : Nat → Int := cnt (fun k => decide (¬ oAh R h k (R 18 h).toNat = (k : Int)))
def oW (R : Nat → Nat → Int) (h : Nat) (P : Nat → Int) : Nat → Nat → Int
  | 0 => R 19
  | k + 1 => updZ (oW R h P k) (h * 6 + k) (P k)
def oR (R : Nat → Nat → Int) (h : Nat) (P : Nat → Int) : Nat → Nat → Int := u2 R 19 (oW R h (oPl R h P (R 18 h).toNat) (R 18 h).toNat)
theorem cnt_lt {p : Nat → Bool} {k : Nat} (hp : p k = false) : ∀ n : Nat, k < n → cnt p n < (n : Int)
  | 0, h => by omega
  | n + 1, h => by
    have hle := cnt_le p n
    unfold cnt
    by_cases q : k = n
    · subst q
      rw [hp, if_neg (by decide)]
      omega
    · have := cnt_lt hp n (by omega)
      split <;> omega
theorem oAh_b (R : Nat → Nat → Int) (h k n : Nat) (hk : k < n) : 0 ≤ oAh R h k n ∧ oAh R h k n < (n : Int) := by
  refine ⟨(cnt_le _ n).1, cnt_lt (k := k) (decide_eq_false ?_) n hk⟩
  rintro (q | q)
  · omega
  · omega
theorem gL_f {R : Nat → Nat → Int} {c w : Int} {i : Nat} (h : gP R c w i = false) : gL R c w (i + 1) = gL R c w i := by rw [gL, h]; rfl
theorem gH_f {R : Nat → Nat → Int} {c w : Int} {i : Nat} (h : gP R c w i = false) : gH R c w (i + 1) = gH R c w i := by rw [gH, h]; rfl
theorem gM_f {R : Nat → Nat → Int} {c w : Int} {i : Nat} (h : gP R c w i = false) : gM R c w (i + 1) = gM R c w i := by rw [gM, h]; rfl
theorem gL_t {R : Nat → Nat → Int} {c w : Int} {i : Nat} (h : gP R c w i = true) : gL R c w (i + 1) = if gL R c w i < sLo R i then sLo R i else gL R c w i := by rw [gL, if_pos h]
theorem gH_t {R : Nat → Nat → Int} {c w : Int} {i : Nat} (h : gP R c w i = true) : gH R c w (i + 1) = if sHi R i < gH R c w i then sHi R i else gH R c w i := by rw [gH, if_pos h]
theorem gM_t {R : Nat → Nat → Int} {c w : Int} {i : Nat} (h : gP R c w i = true) : gM R c w (i + 1) = zor (gM R c w i) (rMask R i) := by rw [gM, if_pos h]
theorem SI_z : SI R0z := by
  refine ⟨fun k j => ?_, ?_, ?_, ?_, fun j hj => ?_, fun i j hij hj => ?_, fun d hd => ?_, fun s hs => ?_, fun h hh => ?_, fun h k hh hk => ?_, fun h k h2 k2 hh hh2 hk => ?_, ?_⟩
  · by_cases e : k = 20
    · subst e
      show -1 ≤ (if j = 1 then (3 : Int) else if j = 0 then 10 else 0) ∧ (if j = 1 then (3 : Int) else if j = 0 then 10 else 0) < 65536
      repeat' split
      all_goals omega
    · rw [R0z_0 _ _ e]
      decide
  · exact ⟨by decide, by decide⟩
  · exact ⟨by decide, by decide⟩
  · exact ⟨by decide, by decide⟩
  · have h0 : (j : Int) < 0 := hj
    omega
  · have h0 : (j : Int) < 0 := hj
    omega
  · have h0 : (d : Int) < 0 := hd
    omega
  · have h0 : (s : Int) < 0 := hs
    omega
  · exact ⟨by show (0 : Int) ≤ 0; decide, by show (0 : Int) ≤ 6; decide⟩
  · have h0 : (k : Int) < 0 := hk
    omega
  · have h0 : (k : Int) < 0 := hk
    omega
  · exact ⟨⟨by decide, by decide⟩, ⟨by decide, by decide⟩⟩
theorem e_X10_placeOn (l : Launch) (g : va_G) (τ : Nat → ClassId) (fa : Nat) (R : Nat → Nat → Int) (hI : SI R) (z : Int) (hz : -2147483648 ≤ z ∧ z < 2147483648) (h1 : Nat) (hh : h1 < 6)  : Met l yX10_placeOn wsX10_placeOn { frames := 0, cells := 0, slots := 0, locals := 0 } (va_Pc [Value.ref fa, Value.int (iI z), Value.int (iI (h1 : Int))] (roW g τ (flW fa R τ))) (roQ (some (Value.int (iI (plI (shN R h1) (pOn R h1 z)))))) 0 0 nof := by
  have h := c_X10_placeOn l g τ fa R hI z hz h1 hh
  rw [rPl_eq hI hh] at h
  exact h
theorem e_X10_shelfOf (l : Launch) (g : va_G) (τ : Nat → ClassId) (fa : Nat) (R : Nat → Nat → Int) (hI : SI R) (z : Int) (hz : -2147483648 ≤ z ∧ z < 2147483648)  : Met l yX10_shelfOf wsX10_shelfOf { frames := 1, cells := 0, slots := 0, locals := 24 } (va_Pc [Value.ref fa, Value.int (iI z)] (roW g τ (flW fa R τ))) (roQ (some (Value.int (iI (plI 6 (sOf R z)))))) 0 0 nof := by
  have h := c_X10_shelfOf l g τ fa R hI z hz
  rw [rSh_eq hI] at h
  exact h
theorem e_X10_others (l : Launch) (g : va_G) (τ : Nat → ClassId) (fa : Nat) (R : Nat → Nat → Int) (hI : SI R) (z : Int) (hz : -2147483648 ≤ z ∧ z < 2147483648) (h1 : Nat) (hh : h1 < 6)  : Met l yX10_others wsX10_others { frames := 2, cells := 0, slots := 0, locals := 47 } (va_Pc [Value.ref fa, Value.int (iI z), Value.int (iI (h1 : Int))] (roW g τ (flW fa R τ))) (roQ (some (Value.int (iI (oth R h1 z))))) 0 0 nof := by
  have h := c_X10_others l g τ fa R hI z hz h1 hh
  rw [rOth_eq hI _ hh] at h
  exact h
theorem e_X10_canCrack (l : Launch) (g : va_G) (τ : Nat → ClassId) (fa : Nat) (R : Nat → Nat → Int) (hI : SI R) (d1 : Nat) (hd1 : (d1 : Int) < R 4 0) (z : Int) (hz : -2147483648 ≤ z ∧ z < 2147483648)  : Met l yX10_canCrack wsX10_canCrack { frames := 0, cells := 0, slots := 0, locals := 0 } (va_Pc [Value.ref fa, Value.int (iI (d1 : Int)), Value.int (iI z)] (roW g τ (flW fa R τ))) (roQ (some (Value.int (iI (zB (decide (R 8 d1 < 4) && !dIn R d1 (R 8 d1).toNat z)))))) 0 0 nof := by
  have h := c_X10_canCrack l g τ fa R hI d1 hd1 z hz
  rw [rCk_eq] at h
  exact h
theorem e_X10_canShelve (l : Launch) (g : va_G) (τ : Nat → ClassId) (fa : Nat) (R : Nat → Nat → Int) (hI : SI R) (s1 : Nat) (hs : (s1 : Int) < R 10 0) (h1 : Nat) (hh : h1 < 6)  : Met l yX10_canShelve wsX10_canShelve { frames := 3, cells := 0, slots := 0, locals := 69 } (va_Pc [Value.ref fa, Value.int (iI (s1 : Int)), Value.int (iI (h1 : Int))] (roW g τ (flW fa R τ))) (roQ (some (Value.int (iI (zB (decide (oth R h1 (s1 : Int) < 6) && !othH R h1 s1)))))) 0 0 nof := by
  have h := c_X10_canShelve l g τ fa R hI s1 hs h1 hh
  rw [rCs_eq hI hh] at h
  exact h

theorem cd_X10_tens : cd yX10_tens 1 := by decide +kernel
set_option maxHeartbeats 1000000 in
set_option maxRecDepth 100000 in
theorem c_X10_tens (l : Launch) (g : va_G) (τ : Nat → ClassId) (n1 : Nat) (hn1 : n1 ≤ 18)  : Met l yX10_tens wsX10_tens { frames := 0, cells := 0, slots := 0, locals := 0 } (va_Pc [Value.int (iI (n1 : Int))] (roW g τ ([]))) (roQ (some (Value.long (iL ((10 : Int) ^ n1))))) 0 0 nof := by
  refine roMet (cc := cX10_tens) (maxL := 4) (ret := (some .long)) (lv := [(0, Value.int (iI (n1 : Int)))]) (by decide) rfl (Nat.le_of_ble_eq_true rfl) rfl ?_
  intro p e s m below meth c hx hb hr hml hts hown hlocks hP hK ls hl
  refine lv_lconst (v := 1) hx hb dX10_tens_0 (by decide) ?_
  refine cv_l (y := iL 1) (by decide) ?_
  refine lv_lstore_n (lv' := [(1, Value.long (iL 1)), (0, Value.int (iI (n1 : Int)))]) hx hb dX10_tens_1 rfl hl (by decide) rfl (fun ls hl => ?_)
  refine lv_iconst (v := iI 0) hx hb dX10_tens_2 (by decide) ?_
  refine lv_istore_n (lv' := [(3, Value.int (iI 0)), (1, Value.long (iL 1)), (0, Value.int (iI (n1 : Int)))]) hx hb dX10_tens_3 rfl hl (by decide) rfl (fun ls hl => ?_)
  have h0_1 : iL ((10 : Int) ^ 0) = iL 1 := rfl
  refine lp_up (fun i => [(3, Value.int (iI (i : Int))), (1, Value.long (iL ((10 : Int) ^ i))), (0, Value.int (iI (n1 : Int)))]) (fun i => True) (n1) (0) (by omega) (by first | trivial | (intro j hj; omega)) (lv_eq (lv_sub hl [0, 1, 2] rfl) (by show [(3, Value.int (iI 0)), (1, Value.long (iL ((10 : Int) ^ 0))), (0, Value.int (iI (n1 : Int)))] = [(3, Value.int (iI 0)), (1, Value.long (iL 1)), (0, Value.int (iI (n1 : Int)))]; rw [h0_1])) (fun i h0_i hi_i hI_i ih_4 ls hl => ?_)
  refine lv_iload_n hx hb dX10_tens_4 rfl (lv_at hl 0 rfl) ?_
  refine lv_iload_n hx hb dX10_tens_5 rfl (lv_at hl 2 rfl) ?_
  refine zi_icmp_ge (tgt := 21) hx hb ⟨by omega, by omega⟩ ⟨by omega, by omega⟩ dX10_tens_6 (by decide) (fun c_2 => ?_) (fun c_2 => ?_)
  · have _ := c_2
    have h0_i : i = n1 := by omega
    refine lv_lload_n hx hb dX10_tens_21 rfl (lv_at hl 1 rfl) ?_
    exact ro_lret hx hb hr hlocks (by rw [h0_i]) dX10_tens_22
  · have _ := c_2
    have hl_i : i < n1 := by omega
    refine lv_lload_n hx hb dX10_tens_9 rfl (lv_at hl 1 rfl) ?_
    refine lv_ldc2 (v := 10) hx hb hown (hts _ (List.mem_of_getElem? (i := 1) rfl)) dX10_tens_10 ?_
    refine cv_l (y := iL 10) (by decide) ?_
    refine lv_lmul hx hb dX10_tens_13 ?_
    refine cv_l (y := iL (((10 : Int) ^ i) * 10)) (iL_mul _ _) ?_
    refine lv_lstore_n (lv' := [(1, Value.long (iL (((10 : Int) ^ i) * 10))), (3, Value.int (iI (i : Int))), (0, Value.int (iI (n1 : Int)))]) hx hb dX10_tens_14 rfl hl (by decide) rfl (fun ls hl => ?_)
    refine zi_inc (v := ((i + 1 : Nat) : Int)) (lv' := [(3, Value.int (iI ((i + 1 : Nat) : Int))), (1, Value.long (iL (((10 : Int) ^ i) * 10))), (0, Value.int (iI (n1 : Int)))]) hx hb dX10_tens_15 hl (k := 1) rfl (by omega) (by decide) rfl (fun ls hl => ?_)
    refine lv_goto (tgt := 4) hx hb dX10_tens_18 (by decide) ?_
    have hb_3 : (((i + 1) : Nat) : Int) = ((i + 1 : Nat) : Int) := by first | rfl | omega | (simp [c_2]; done)
    have hb_4 : iL ((10 : Int) ^ (i + 1)) = iL (((10 : Int) ^ i) * 10) := by rw [Int.pow_succ]
    exact ih_4 hl_i (trivial) _ (lv_eq (lv_sub hl [0, 1, 2] rfl) (by show [(3, Value.int (iI (((i + 1) : Nat) : Int))), (1, Value.long (iL ((10 : Int) ^ (i + 1)))), (0, Value.int (iI (n1 : Int)))] = [(3, Value.int (iI ((i + 1 : Nat) : Int))), (1, Value.long (iL (((10 : Int) ^ i) * 10))), (0, Value.int (iI (n1 : Int)))]; rw [hb_3, hb_4]))

theorem cd_X10_fresh : cd yX10_fresh 1 := by decide +kernel
set_option maxHeartbeats 1000000 in
set_option maxRecDepth 100000 in
theorem c_X10_fresh (l : Launch) (g : va_G) (τ : Nat → ClassId) (fa : Nat) (f : Nat → Int)  : Met l yX10_fresh wsX10_fresh { frames := 0, cells := 0, slots := 0, locals := 0 } (va_Pc [Value.ref fa] (rwW g τ ([arC fa (τ 0) 291 f]))) (rwQ g (fun v w => v = none ∧ w = flW fa R0z τ) (inW ([arC fa (τ 0) 291 f]))) 0 0 (inW ([arC fa (τ 0) 291 f])) := by
  refine rwMet (cc := cX10_fresh) (maxL := 2) (ret := none) (lv := [(0, Value.ref fa)]) (by decide) rfl (Nat.le_of_ble_eq_true rfl) rfl ?_
  intro p e s m below meth c hx hb hr hml hts hown hlocks A H hP hD hS hK ls hl
  refine lv_iconst (v := iI 0) hx hb dX10_fresh_0 (by decide) ?_
  refine lv_istore_n (lv' := [(1, Value.int (iI 0)), (0, Value.ref fa)]) hx hb dX10_fresh_1 rfl hl (by decide) rfl (fun ls hl => ?_)
  have hP : va_P g vwCl ([arC fa (τ 0) 291 (zf f 0)]) H := by first | exact hP | (rw [zf_0]; exact hP)
  have hD : va_D A ([arC fa (τ 0) 291 (zf f 0)]) := by first | exact hD | (rw [zf_0]; exact hD)
  refine lp_upW (fun i => [(1, Value.int (iI (i : Int))), (0, Value.ref fa)]) (fun i => [arC fa (τ 0) 291 (zf f i)]) (fun i => True) (291) (0) (by omega) hP hD hS (by first | trivial | (intro j hj; omega)) (lv_eq (lv_sub hl [0, 1] rfl) (by show [(1, Value.int (iI 0)), (0, Value.ref fa)] = [(1, Value.int (iI 0)), (0, Value.ref fa)]; rfl)) (fun i h0_i hi_i hI_i ih_2 H locs hP hD hS ls hl => ?_)
  refine lv_iload_n hx hb dX10_fresh_2 rfl (lv_at hl 0 rfl) ?_
  refine lv_sipush (v := iI 291) hx hb dX10_fresh_3 (by decide) ?_
  refine zi_icmp_ge (tgt := 19) hx hb ⟨by omega, by omega⟩ ⟨by decide, by decide⟩ dX10_fresh_6 (by decide) (fun c_1 => ?_) (fun c_1 => ?_)
  · have _ := c_1
    have h0_i : i = 291 := by omega
    refine lv_aload_n hx hb dX10_fresh_19 rfl (lv_at hl 1 rfl) ?_
    refine lv_iconst (v := iI 3) hx hb dX10_fresh_20 (by decide) ?_
    refine lv_bipush (v := iI 10) hx hb dX10_fresh_21 (by decide) ?_
    refine zi_ast hx hb hK hP hD hS 0 (f := (zf f i)) (rfl) (3) (rfl) (by omega) (by decide) dX10_fresh_23 (wo := [arC fa (τ 0) 291 (updZ (zf f i) 3 10)]) rfl (fun H locs hP hD hS => ?_)
    refine lv_aload_n hx hb dX10_fresh_24 rfl (lv_at hl 1 rfl) ?_
    refine lv_iconst (v := iI 4) hx hb dX10_fresh_25 (by decide) ?_
    refine lv_iconst (v := iI 3) hx hb dX10_fresh_26 (by decide) ?_
    refine zi_ast hx hb hK hP hD hS 0 (f := (updZ (zf f i) 3 10)) (rfl) (4) (rfl) (by omega) (by decide) dX10_fresh_27 (wo := [arC fa (τ 0) 291 (updZ (updZ (zf f i) 3 10) 4 3)]) rfl (fun H locs hP hD hS => ?_)
    subst h0_i
    have hP : va_P g vwCl (flW fa R0z τ) H := ar_P hP (q := 0) rfl (fr_eq f) rfl
    exact rw_vret hx hb hr hlocks hP hS (⟨rfl, rfl⟩) dX10_fresh_28
  · have _ := c_1
    have hl_i : i < 291 := by omega
    refine lv_aload_n hx hb dX10_fresh_9 rfl (lv_at hl 1 rfl) ?_
    refine lv_iload_n hx hb dX10_fresh_10 rfl (lv_at hl 0 rfl) ?_
    refine lv_iconst (v := iI 0) hx hb dX10_fresh_11 (by decide) ?_
    refine zi_ast hx hb hK hP hD hS 0 (f := (zf f i)) (rfl) (i) (rfl) (by omega) (by decide) dX10_fresh_12 (wo := [arC fa (τ 0) 291 (updZ (zf f i) i 0)]) rfl (fun H locs hP hD hS => ?_)
    refine zi_inc (v := ((i + 1 : Nat) : Int)) (lv' := [(1, Value.int (iI ((i + 1 : Nat) : Int))), (0, Value.ref fa)]) hx hb dX10_fresh_13 hl (k := 0) rfl (by omega) (by decide) rfl (fun ls hl => ?_)
    refine lv_goto (tgt := 2) hx hb dX10_fresh_16 (by decide) ?_
    have hb_2 : (((i + 1) : Nat) : Int) = ((i + 1 : Nat) : Int) := by first | rfl | omega | (simp [c_1]; done)
    have hw_3 : [arC fa (τ 0) 291 (updZ (zf f i) i 0)] = [arC fa (τ 0) 291 (zf f (i + 1))] := by rw [zf_s]
    rw [hw_3] at hP hD
    exact ih_2 hl_i (trivial) _ _ _ hP hD hS (lv_eq (lv_sub hl [0, 1] rfl) (by show [(1, Value.int (iI (((i + 1) : Nat) : Int))), (0, Value.ref fa)] = [(1, Value.int (iI ((i + 1 : Nat) : Int))), (0, Value.ref fa)]; rw [hb_2]))

theorem cd_X10_copy : cd yX10_copy 2 := by decide +kernel
set_option maxHeartbeats 1000000 in
set_option maxRecDepth 100000 in
theorem c_X10_copy (l : Launch) (g : va_G) (τ : Nat → ClassId) (fa fb : Nat) (R : Nat → Nat → Int) (f : Nat → Int)  : Met l yX10_copy wsX10_copy { frames := 0, cells := 0, slots := 0, locals := 0 } (va_Pc [Value.ref fa, Value.ref fb] (rwW g τ ([arC fa (τ 0) 291 (flR R), arC fb (τ 0) 291 f]))) (rwQ g (fun v w => v = none ∧ w = [arC fa (τ 0) 291 (flR R), arC fb (τ 0) 291 (flR R)]) (inW ([arC fa (τ 0) 291 (flR R), arC fb (τ 0) 291 f]))) 0 0 (inW ([arC fa (τ 0) 291 (flR R), arC fb (τ 0) 291 f])) := by
  refine rwMet (cc := cX10_copy) (maxL := 3) (ret := none) (lv := [(0, Value.ref fa), (1, Value.ref fb)]) (by decide) rfl (Nat.le_of_ble_eq_true rfl) rfl ?_
  intro p e s m below meth c hx hb hr hml hts hown hlocks A H hP hD hS hK ls hl
  refine lv_iconst (v := iI 0) hx hb dX10_copy_0 (by decide) ?_
  refine lv_istore_n (lv' := [(2, Value.int (iI 0)), (0, Value.ref fa), (1, Value.ref fb)]) hx hb dX10_copy_1 rfl hl (by decide) rfl (fun ls hl => ?_)
  have hP : va_P g vwCl ([arC fa (τ 0) 291 (flR R), arC fb (τ 0) 291 (cpf R f 0)]) H := by first | exact hP | (rw [cpf_0]; exact hP)
  have hD : va_D A ([arC fa (τ 0) 291 (flR R), arC fb (τ 0) 291 (cpf R f 0)]) := by first | exact hD | (rw [cpf_0]; exact hD)
  refine lp_upW (fun i => [(2, Value.int (iI (i : Int))), (0, Value.ref fa), (1, Value.ref fb)]) (fun i => [arC fa (τ 0) 291 (flR R), arC fb (τ 0) 291 (cpf R f i)]) (fun i => True) (291) (0) (by omega) hP hD hS (by first | trivial | (intro j hj; omega)) (lv_eq (lv_sub hl [0, 1, 2] rfl) (by show [(2, Value.int (iI 0)), (0, Value.ref fa), (1, Value.ref fb)] = [(2, Value.int (iI 0)), (0, Value.ref fa), (1, Value.ref fb)]; rfl)) (fun i h0_i hi_i hI_i ih_2 H locs hP hD hS ls hl => ?_)
  refine lv_iload_n hx hb dX10_copy_2 rfl (lv_at hl 0 rfl) ?_
  refine lv_sipush (v := iI 291) hx hb dX10_copy_3 (by decide) ?_
  refine zi_icmp_ge (tgt := 21) hx hb ⟨by omega, by omega⟩ ⟨by decide, by decide⟩ dX10_copy_6 (by decide) (fun c_1 => ?_) (fun c_1 => ?_)
  · have _ := c_1
    have h0_i : i = 291 := by omega
    subst h0_i
    have hP : va_P g vwCl [arC fa (τ 0) 291 (flR R), arC fb (τ 0) 291 (flR R)] H := ar_P hP (q := 1) rfl (cpf_e R f) rfl
    exact rw_vret hx hb hr hlocks hP hS (⟨rfl, rfl⟩) dX10_copy_21
  · have _ := c_1
    have hl_i : i < 291 := by omega
    refine lv_aload_n hx hb dX10_copy_9 rfl (lv_at hl 2 rfl) ?_
    refine lv_iload_n hx hb dX10_copy_10 rfl (lv_at hl 0 rfl) ?_
    refine lv_aload_n hx hb dX10_copy_11 rfl (lv_at hl 1 rfl) ?_
    refine lv_iload_n hx hb dX10_copy_12 rfl (lv_at hl 0 rfl) ?_
    refine zi_ald hx hb hK hP 0 (f := (flR R)) (rfl) (i) (rfl) (by omega) (by decide) dX10_copy_13 ?_
    refine zi_ast hx hb hK hP hD hS 1 (f := (cpf R f i)) (rfl) (i) (rfl) (by omega) (by decide) dX10_copy_14 (wo := [arC fa (τ 0) 291 (flR R), arC fb (τ 0) 291 (updZ (cpf R f i) i (flR R i))]) rfl (fun H locs hP hD hS => ?_)
    refine zi_inc (v := ((i + 1 : Nat) : Int)) (lv' := [(2, Value.int (iI ((i + 1 : Nat) : Int))), (0, Value.ref fa), (1, Value.ref fb)]) hx hb dX10_copy_15 hl (k := 0) rfl (by omega) (by decide) rfl (fun ls hl => ?_)
    refine lv_goto (tgt := 2) hx hb dX10_copy_18 (by decide) ?_
    have hb_2 : (((i + 1) : Nat) : Int) = ((i + 1 : Nat) : Int) := by first | rfl | omega | (simp [c_1]; done)
    have hw_3 : [arC fa (τ 0) 291 (flR R), arC fb (τ 0) 291 (updZ (cpf R f i) i (flR R i))] = [arC fa (τ 0) 291 (flR R), arC fb (τ 0) 291 (cpf R f (i + 1))] := by rw [cpf_s]
    rw [hw_3] at hP hD
    exact ih_2 hl_i (trivial) _ _ _ hP hD hS (lv_eq (lv_sub hl [0, 1, 2] rfl) (by show [(2, Value.int (iI (((i + 1) : Nat) : Int))), (0, Value.ref fa), (1, Value.ref fb)] = [(2, Value.int (iI ((i + 1 : Nat) : Int))), (0, Value.ref fa), (1, Value.ref fb)]; rw [hb_2]))

theorem cd_X10_goTake : cd yX10_goTake 2 := by decide +kernel
set_option maxHeartbeats 1000000 in
set_option maxRecDepth 100000 in
theorem c_X10_goTake (l : Launch) (g : va_G) (τ : Nat → ClassId) (fa : Nat) (R : Nat → Nat → Int) (hI : SI R) (z : Int) (hz : -2147483648 ≤ z ∧ z < 2147483648)  : Met l yX10_goTake wsX10_goTake { frames := 2, cells := 0, slots := 0, locals := 47 } (va_Pc [Value.ref fa, Value.int (iI z)] (rwW g τ (flW fa R τ))) (rwQ g (fun v w => v = none ∧ w = flW fa (rmR R z) τ) (inW (flW fa R τ))) 0 0 (inW (flW fa R τ)) := by
  have hB := hI.hB
  have hr0 := hI.r
  have hd0 := hI.d
  have hs0 := hI.s
  refine rwMet (cc := cX10_goTake) (maxL := 5) (ret := none) (lv := [(0, Value.ref fa), (1, Value.int (iI z))]) (by decide) rfl (Nat.le_of_ble_eq_true rfl) rfl ?_
  intro p e s m below meth c hx hb hr hml hts hown hlocks A H hP hD hS hK ls hl
  refine lv_aload_n hx hb dX10_goTake_0 rfl (lv_at hl 0 rfl) ?_
  refine lv_iload_n hx hb dX10_goTake_1 rfl (lv_at hl 1 rfl) ?_
  refine ro_S (As := [Value.ref fa, Value.int (iI z)]) (rest := []) (v := some (Value.int (iI (plI 6 (sOf R z))))) ⟨hx, hb, hml, hown, hts⟩ (e_X10_shelfOf l g τ fa R hI z ⟨by omega, by omega⟩) gX10_goTake_X10_shelfOf cd_X10_shelfOf rfl ⟨rfl, rfl⟩ ⟨Nat.le_of_ble_eq_true rfl, Nat.le_of_ble_eq_true rfl⟩ hK hP rfl hl rfl (Nat.le_of_ble_eq_true rfl) dX10_goTake_2 ⟨Nat.le_of_ble_eq_true rfl, Nat.le_of_ble_eq_true rfl⟩ ?_
  refine tl_some ?_
  have := plI_r 6 (sOf R z)
  have hsle : sOf R z ≤ 6 := fst_le _ _
  refine lv_istore_n (lv' := [(2, Value.int (iI (plI 6 (sOf R z)))), (0, Value.ref fa), (1, Value.int (iI z))]) hx hb dX10_goTake_5 rfl hl (by decide) rfl (fun ls hl => ?_)
  refine lv_iload_n hx hb dX10_goTake_6 rfl (lv_at hl 0 rfl) ?_
  refine lv_iconst (v := iI (-1)) hx hb dX10_goTake_7 (by decide) ?_
  refine zi_icmp_eq (tgt := 78) hx hb ⟨by omega, by omega⟩ ⟨by decide, by decide⟩ dX10_goTake_8 (by decide) (fun c_1 => ?_) (fun c_1 => ?_)
  · have _ := c_1
    have h6 : ¬ sOf R z < 6 := by (have := plI_no c_1); omega
    exact rw_vret hx hb hr hlocks hP hS (⟨rfl, by rw [rm_none h6]⟩) dX10_goTake_78
  · have _ := c_1
    have h6 := plI_yes c_1
    have hpy := sOf_y h6
    rw [plI_lt h6] at hl
    refine lv_aload_n hx hb dX10_goTake_11 rfl (lv_at hl 1 rfl) ?_
    refine lv_iload_n hx hb dX10_goTake_12 rfl (lv_at hl 2 rfl) ?_
    refine lv_iload_n hx hb dX10_goTake_13 rfl (lv_at hl 0 rfl) ?_
    refine ro_S (As := [Value.ref fa, Value.int (iI z), Value.int (iI ((sOf R z : Nat) : Int))]) (rest := []) (v := some (Value.int (iI (plI (shN R (sOf R z)) (pOn R (sOf R z) z))))) ⟨hx, hb, hml, hown, hts⟩ (e_X10_placeOn l g τ fa R hI z ⟨by omega, by omega⟩ (sOf R z) (by omega)) gX10_goTake_X10_placeOn cd_X10_placeOn rfl ⟨rfl, rfl⟩ ⟨Nat.le_of_ble_eq_true rfl, Nat.le_of_ble_eq_true rfl⟩ hK hP rfl hl rfl (Nat.le_of_ble_eq_true rfl) dX10_goTake_14 ⟨Nat.le_of_ble_eq_true rfl, Nat.le_of_ble_eq_true rfl⟩ ?_
    refine tl_some ?_
    have := plI_r (shN R (sOf R z)) (pOn R (sOf R z) z)
    have hple : pOn R (sOf R z) z ≤ shN R (sOf R z) := fst_le _ _
    have hnn := hI.hN (sOf R z) (by omega)
    have hsd : shN R (sOf R z) = (R 18 (sOf R z)).toNat := rfl
    refine cv_i (y := iI ((pOn R (sOf R z) z : Nat) : Int)) (congrArg iI (plI_lt hpy)) ?_
    refine lv_istore_n (lv' := [(3, Value.int (iI ((pOn R (sOf R z) z : Nat) : Int))), (2, Value.int (iI ((sOf R z : Nat) : Int))), (0, Value.ref fa), (1, Value.int (iI z))]) hx hb dX10_goTake_17 rfl hl (by decide) rfl (fun ls hl => ?_)
    refine lv_aload_n hx hb dX10_goTake_18 rfl (lv_at hl 2 rfl) ?_
    refine lv_sipush (v := iI 249) hx hb dX10_goTake_19 (by decide) ?_
    refine lv_iload_n hx hb dX10_goTake_22 rfl (lv_at hl 1 rfl) ?_
    refine zi_add hx hb dX10_goTake_23 ?_
    refine lv_dup2_11 hx hb dX10_goTake_24 rfl rfl ?_
    refine zf_ald hx hb hK hP 0 (f := flR R) rfl (249 + (sOf R z)) (by omega) (by omega) (by decide) (z := R 18 (sOf R z)) (fl_18 (i := sOf R z) (by omega) (by omega)) dX10_goTake_25 ?_
    have hb_2 := hB 18 (sOf R z)
    refine lv_iconst (v := iI 1) hx hb dX10_goTake_26 (by decide) ?_
    refine zi_sub hx hb dX10_goTake_27 ?_
    refine zf_ast hx hb hK hP hD hS 0 (f := flR R) (f2 := flR (u2 R 18 (updZ (R 18) (sOf R z) ((R 18 (sOf R z)) - 1)))) rfl (249 + (sOf R z)) (by omega) (by omega) (by decide) (fu_18 (by omega) (by omega)) dX10_goTake_28 (wo := flW fa (u2 R 18 (updZ (R 18) (sOf R z) ((R 18 (sOf R z)) - 1))) τ) rfl (fun H locs hP hD hS => ?_)
    refine lv_iload_n hx hb dX10_goTake_29 rfl (lv_at hl 0 rfl) ?_
    refine lv_istore (lv' := [(4, Value.int (iI ((pOn R (sOf R z) z : Nat) : Int))), (3, Value.int (iI ((pOn R (sOf R z) z : Nat) : Int))), (2, Value.int (iI ((sOf R z : Nat) : Int))), (0, Value.ref fa), (1, Value.int (iI z))]) hx hb dX10_goTake_30 hl (by decide) rfl (fun ls hl => ?_)
    have hP : va_P g vwCl (flW fa (u2 (u2 R 18 (updZ (R 18) (sOf R z) (R 18 (sOf R z) - 1))) 19 (shl (R 19) ((sOf R z) * 6 + (pOn R (sOf R z) z)) ((sOf R z) * 6 + (pOn R (sOf R z) z)))) τ) H := by first | exact hP | (rw [rt_0]; exact hP)
    have hD : va_D A (flW fa (u2 (u2 R 18 (updZ (R 18) (sOf R z) (R 18 (sOf R z) - 1))) 19 (shl (R 19) ((sOf R z) * 6 + (pOn R (sOf R z) z)) ((sOf R z) * 6 + (pOn R (sOf R z) z)))) τ) := by first | exact hD | (rw [rt_0]; exact hD)
    refine lp_upW (fun i => [(4, Value.int (iI (i : Int))), (3, Value.int (iI ((pOn R (sOf R z) z : Nat) : Int))), (2, Value.int (iI ((sOf R z : Nat) : Int))), (0, Value.ref fa), (1, Value.int (iI z))]) (fun i => flW fa (u2 (u2 R 18 (updZ (R 18) (sOf R z) (R 18 (sOf R z) - 1))) 19 (shl (R 19) ((sOf R z) * 6 + (pOn R (sOf R z) z)) ((sOf R z) * 6 + i))) τ) (fun i => True) (shN R (sOf R z) - 1) (pOn R (sOf R z) z) (by omega) hP hD hS (by first | trivial | (intro j hj; omega)) (lv_eq (lv_sub hl [0, 1, 2, 3, 4] rfl) (by show [(4, Value.int (iI ((pOn R (sOf R z) z : Nat) : Int))), (3, Value.int (iI ((pOn R (sOf R z) z : Nat) : Int))), (2, Value.int (iI ((sOf R z : Nat) : Int))), (0, Value.ref fa), (1, Value.int (iI z))] = [(4, Value.int (iI ((pOn R (sOf R z) z : Nat) : Int))), (3, Value.int (iI ((pOn R (sOf R z) z : Nat) : Int))), (2, Value.int (iI ((sOf R z : Nat) : Int))), (0, Value.ref fa), (1, Value.int (iI z))]; rfl)) (fun i h0_i hi_i hI_i ih_32 H locs hP hD hS ls hl => ?_)
    refine lv_iload hx hb dX10_goTake_32 (lv_at hl 0 rfl) ?_
    refine lv_aload_n hx hb dX10_goTake_34 rfl (lv_at hl 3 rfl) ?_
    refine lv_sipush (v := iI 249) hx hb dX10_goTake_35 (by decide) ?_
    refine lv_iload_n hx hb dX10_goTake_38 rfl (lv_at hl 2 rfl) ?_
    refine zi_add hx hb dX10_goTake_39 ?_
    refine zf_ald hx hb hK hP 0 (f := flR (u2 (u2 R 18 (updZ (R 18) (sOf R z) (R 18 (sOf R z) - 1))) 19 (shl (R 19) ((sOf R z) * 6 + (pOn R (sOf R z) z)) ((sOf R z) * 6 + i)))) rfl (249 + (sOf R z)) (by omega) (by omega) (by decide) (z := (u2 (u2 R 18 (updZ (R 18) (sOf R z) (R 18 (sOf R z) - 1))) 19 (shl (R 19) ((sOf R z) * 6 + (pOn R (sOf R z) z)) ((sOf R z) * 6 + i))) 18 (sOf R z)) (fl_18 (i := sOf R z) (by omega) (by omega)) dX10_goTake_40 ?_
    refine cv_i (y := iI (R 18 (sOf R z) - 1)) (congrArg iI (ud_e (f := R 18))) ?_
    refine zi_icmp_ge (tgt := 78) hx hb ⟨by omega, by omega⟩ ⟨by omega, by omega⟩ dX10_goTake_41 (by decide) (fun c_3 => ?_) (fun c_3 => ?_)
    · have _ := c_3
      have h0_i : i = shN R (sOf R z) - 1 := by omega
      exact rw_vret hx hb hr hlocks hP hS (⟨rfl, by rw [rm_alt h6, h0_i]⟩) dX10_goTake_78
    · have _ := c_3
      have hl_i : i < shN R (sOf R z) - 1 := by omega
      refine lv_aload_n hx hb dX10_goTake_44 rfl (lv_at hl 3 rfl) ?_
      refine lv_sipush (v := iI 255) hx hb dX10_goTake_45 (by decide) ?_
      refine lv_bipush (v := iI 6) hx hb dX10_goTake_48 (by decide) ?_
      refine lv_iload_n hx hb dX10_goTake_50 rfl (lv_at hl 2 rfl) ?_
      refine zi_mul hx hb dX10_goTake_51 ?_
      refine zi_add hx hb dX10_goTake_52 ?_
      refine lv_iload hx hb dX10_goTake_53 (lv_at hl 0 rfl) ?_
      refine zi_add hx hb dX10_goTake_55 ?_
      refine lv_aload_n hx hb dX10_goTake_56 rfl (lv_at hl 3 rfl) ?_
      refine lv_sipush (v := iI 255) hx hb dX10_goTake_57 (by decide) ?_
      refine lv_bipush (v := iI 6) hx hb dX10_goTake_60 (by decide) ?_
      refine lv_iload_n hx hb dX10_goTake_62 rfl (lv_at hl 2 rfl) ?_
      refine zi_mul hx hb dX10_goTake_63 ?_
      refine zi_add hx hb dX10_goTake_64 ?_
      refine lv_iload hx hb dX10_goTake_65 (lv_at hl 0 rfl) ?_
      refine zi_add hx hb dX10_goTake_67 ?_
      refine lv_iconst (v := iI 1) hx hb dX10_goTake_68 (by decide) ?_
      refine zi_add hx hb dX10_goTake_69 ?_
      refine zf_ald hx hb hK hP 0 (f := flR (u2 (u2 R 18 (updZ (R 18) (sOf R z) (R 18 (sOf R z) - 1))) 19 (shl (R 19) ((sOf R z) * 6 + (pOn R (sOf R z) z)) ((sOf R z) * 6 + i)))) rfl (((255 + (6 * (sOf R z))) + i) + 1) (by omega) (by omega) (by decide) (z := (u2 (u2 R 18 (updZ (R 18) (sOf R z) (R 18 (sOf R z) - 1))) 19 (shl (R 19) ((sOf R z) * 6 + (pOn R (sOf R z) z)) ((sOf R z) * 6 + i))) 19 ((sOf R z) * 6 + i + 1)) (fl_19 (i := (sOf R z) * 6 + i + 1) (by omega) (by omega)) dX10_goTake_70 ?_
      refine zf_ast hx hb hK hP hD hS 0 (f := flR (u2 (u2 R 18 (updZ (R 18) (sOf R z) (R 18 (sOf R z) - 1))) 19 (shl (R 19) ((sOf R z) * 6 + (pOn R (sOf R z) z)) ((sOf R z) * 6 + i)))) (f2 := flR (u2 (u2 (u2 R 18 (updZ (R 18) (sOf R z) (R 18 (sOf R z) - 1))) 19 (shl (R 19) ((sOf R z) * 6 + (pOn R (sOf R z) z)) ((sOf R z) * 6 + i))) 19 (updZ ((u2 (u2 R 18 (updZ (R 18) (sOf R z) (R 18 (sOf R z) - 1))) 19 (shl (R 19) ((sOf R z) * 6 + (pOn R (sOf R z) z)) ((sOf R z) * 6 + i))) 19) ((sOf R z) * 6 + i) ((u2 (u2 R 18 (updZ (R 18) (sOf R z) (R 18 (sOf R z) - 1))) 19 (shl (R 19) ((sOf R z) * 6 + (pOn R (sOf R z) z)) ((sOf R z) * 6 + i))) 19 ((sOf R z) * 6 + i + 1))))) rfl ((255 + (6 * (sOf R z))) + i) (by omega) (by omega) (by decide) (fu_19 (by omega) (by omega)) dX10_goTake_71 (wo := flW fa (u2 (u2 (u2 R 18 (updZ (R 18) (sOf R z) (R 18 (sOf R z) - 1))) 19 (shl (R 19) ((sOf R z) * 6 + (pOn R (sOf R z) z)) ((sOf R z) * 6 + i))) 19 (updZ ((u2 (u2 R 18 (updZ (R 18) (sOf R z) (R 18 (sOf R z) - 1))) 19 (shl (R 19) ((sOf R z) * 6 + (pOn R (sOf R z) z)) ((sOf R z) * 6 + i))) 19) ((sOf R z) * 6 + i) ((u2 (u2 R 18 (updZ (R 18) (sOf R z) (R 18 (sOf R z) - 1))) 19 (shl (R 19) ((sOf R z) * 6 + (pOn R (sOf R z) z)) ((sOf R z) * 6 + i))) 19 ((sOf R z) * 6 + i + 1)))) τ) rfl (fun H locs hP hD hS => ?_)
      refine zi_inc (v := ((i + 1 : Nat) : Int)) (lv' := [(4, Value.int (iI ((i + 1 : Nat) : Int))), (3, Value.int (iI ((pOn R (sOf R z) z : Nat) : Int))), (2, Value.int (iI ((sOf R z : Nat) : Int))), (0, Value.ref fa), (1, Value.int (iI z))]) hx hb dX10_goTake_72 hl (k := 0) rfl (by omega) (by decide) rfl (fun ls hl => ?_)
      refine lv_goto (tgt := 32) hx hb dX10_goTake_75 (by decide) ?_
      have hb_4 : (((i + 1) : Nat) : Int) = ((i + 1 : Nat) : Int) := by first | rfl | omega | (simp [c_1, c_3]; done)
      have hw_5 : flW fa (u2 (u2 (u2 R 18 (updZ (R 18) (sOf R z) (R 18 (sOf R z) - 1))) 19 (shl (R 19) ((sOf R z) * 6 + (pOn R (sOf R z) z)) ((sOf R z) * 6 + i))) 19 (updZ ((u2 (u2 R 18 (updZ (R 18) (sOf R z) (R 18 (sOf R z) - 1))) 19 (shl (R 19) ((sOf R z) * 6 + (pOn R (sOf R z) z)) ((sOf R z) * 6 + i))) 19) ((sOf R z) * 6 + i) ((u2 (u2 R 18 (updZ (R 18) (sOf R z) (R 18 (sOf R z) - 1))) 19 (shl (R 19) ((sOf R z) * 6 + (pOn R (sOf R z) z)) ((sOf R z) * 6 + i))) 19 ((sOf R z) * 6 + i + 1)))) τ = flW fa (u2 (u2 R 18 (updZ (R 18) (sOf R z) (R 18 (sOf R z) - 1))) 19 (shl (R 19) ((sOf R z) * 6 + (pOn R (sOf R z) z)) ((sOf R z) * 6 + (i + 1)))) τ := congrArg (fun z2 => flW fa z2 τ) (rt_s (u2 R 18 (updZ (R 18) (sOf R z) (R 18 (sOf R z) - 1))) (R 19) (by omega))
      rw [hw_5] at hP hD
      exact ih_32 hl_i (trivial) _ _ _ hP hD hS (lv_eq (lv_sub hl [0, 1, 2, 3, 4] rfl) (by show [(4, Value.int (iI (((i + 1) : Nat) : Int))), (3, Value.int (iI ((pOn R (sOf R z) z : Nat) : Int))), (2, Value.int (iI ((sOf R z : Nat) : Int))), (0, Value.ref fa), (1, Value.int (iI z))] = [(4, Value.int (iI ((i + 1 : Nat) : Int))), (3, Value.int (iI ((pOn R (sOf R z) z : Nat) : Int))), (2, Value.int (iI ((sOf R z : Nat) : Int))), (0, Value.ref fa), (1, Value.int (iI z))]; rw [hb_4]))
