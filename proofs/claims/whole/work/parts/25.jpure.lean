/-! Years, the judge's cells; what the judge finds -/
def yC (a : Nat) (lo hi sp : Int) : Nat × va_E := (a, .inr (8, [.int (iI lo), .int (iI hi), .int (iI sp)]))
def juC (aj : Nat → Nat) (J : Nat → Nat → Int) (τ : Nat → ClassId) : va_W := [(aj 0, .inr (1, [.ref (aj 1), .ref (aj 2), .ref (aj 3), .ref (aj 4), .ref (aj 5), .ref (aj (10 + 30))])), (aj 1, .inl (τ 3, 24, .inr (.inr (.inr (.inr (fun i => some (aj (10 + i)))))))), (aj 2, .inl (τ 3, 6, .inr (.inr (.inr (.inr (fun i => some (aj (10 + (24 + i))))))))), (aj 3, .inl (τ 0, 24, .inl (fun j => iI (J 3 j)))), (aj 4, .inl (τ 0, 24, .inl (fun j => iI (J 4 j)))), (aj 5, .inl (τ 0, 36, .inl (fun j => iI (J 5 j))))]
def juY (aj : Nat → Nat) (J : Nat → Nat → Int) : va_W := (List.range 31).map (fun i => yC (aj (10 + i)) (J 0 i) (J 1 i) (J 2 i))
def juW (aj : Nat → Nat) (J : Nat → Nat → Int) (τ : Nat → ClassId) : va_W := juC aj J τ ++ juY aj J
theorem juY_at (aj : Nat → Nat) (J : Nat → Nat → Int) {i : Nat} (h : i < 31) : (juY aj J)[i]? = some (yC (aj (10 + i)) (J 0 i) (J 1 i) (J 2 i)) := by
  unfold juY
  rw [List.getElem?_map, List.getElem?_range h]
  rfl
theorem juW_at (aj : Nat → Nat) (J : Nat → Nat → Int) (τ : Nat → ClassId) {i : Nat} (h : i < 31) : (juW aj J τ)[6 + i]? = some (yC (aj (10 + i)) (J 0 i) (J 1 i) (J 2 i)) := by
  unfold juW
  rw [List.getElem?_append_right (by show 6 ≤ 6 + i; omega), show 6 + i - (juC aj J τ).length = i from by show 6 + i - 6 = i; omega]
  exact juY_at aj J h
theorem va_left {D : va_G} {cl : List vw_C} {a b : va_W} {H : Heap} (h : va_P D cl (a ++ b) H) : va_P D cl a H := fun k q hk => h k q (by rw [List.getElem?_append_left (List.getElem?_eq_some_iff.mp hk).1]; exact hk)
theorem va_right {D : va_G} {cl : List vw_C} {a b : va_W} {H : Heap} (h : va_P D cl (a ++ b) H) : va_P D cl b H := fun k q hk => h (a.length + k) q (by rw [List.getElem?_append_right (by omega), Nat.add_sub_cancel_left]; exact hk)
theorem set_left {a b : va_W} {k : Nat} {q : Nat × va_E} (h : k < a.length) : (a ++ b).set k q = a.set k q ++ b := by
  rw [List.set_append, if_pos h]
def yset (J : Nat → Nat → Int) (i : Nat) (lo hi sp : Int) : Nat → Nat → Int := fun k j => if j = i then (if k = 0 then lo else if k = 1 then hi else if k = 2 then sp else J k j) else J k j
theorem juY_set (aj : Nat → Nat) (J : Nat → Nat → Int) {i : Nat} (h : i < 31) (lo hi sp : Int) : (juY aj J).set i (yC (aj (10 + i)) lo hi sp) = juY aj (yset J i lo hi sp) := by
  refine List.ext_getElem? fun k => ?_
  by_cases hk : k < 31
  · rw [juY_at aj _ hk]
    by_cases e : i = k
    · subst e
      rw [List.getElem?_set_self (by unfold juY; simpa using h)]
      simp [yset]
    · rw [List.getElem?_set_ne e, juY_at aj J hk]
      have e2 : ¬ k = i := fun q => e q.symm
      simp [yset, e2]
  · rw [List.getElem?_eq_none (by rw [List.length_set]; unfold juY; simp; omega), List.getElem?_eq_none (by unfold juY; simp; omega)]
theorem juC_yset (aj : Nat → Nat) (J : Nat → Nat → Int) (τ : Nat → ClassId) (i : Nat) (lo hi sp : Int) : juC aj (yset J i lo hi sp) τ = juC aj J τ := by
  have h3 : ∀ k, 3 ≤ k → yset J i lo hi sp k = J k := fun k hk => by
    funext j
    unfold yset
    rw [if_neg (by omega : ¬ k = 0), if_neg (by omega : ¬ k = 1), if_neg (by omega : ¬ k = 2)]
    split <;> rfl
  unfold juC
  rw [h3 3 (by omega), h3 4 (by omega), h3 5 (by omega)]
theorem juW_set (aj : Nat → Nat) (J : Nat → Nat → Int) (τ : Nat → ClassId) {i : Nat} (h : i < 31) (lo hi sp : Int) : (juW aj J τ).set (6 + i) (yC (aj (10 + i)) lo hi sp) = juW aj (yset J i lo hi sp) τ := by
  unfold juW
  rw [List.set_append, if_neg (by show ¬ 6 + i < 6; omega), juC_yset, show 6 + i - (juC aj J τ).length = i from by show 6 + i - 6 = i; omega, juY_set aj J h]
theorem juY_u2 (aj : Nat → Nat) (J : Nat → Nat → Int) {k : Nat} (h : 3 ≤ k) (f : Nat → Int) : juY aj (u2 J k f) = juY aj J := by
  unfold juY u2
  rw [if_neg (by omega), if_neg (by omega), if_neg (by omega)]
theorem juW_3 (aj : Nat → Nat) (J : Nat → Nat → Int) (τ : Nat → ClassId) (f : Nat → Int) : (juW aj J τ).set 3 (aj 3, .inl (τ 0, 24, .inl (fun j => iI (f j)))) = juW aj (u2 J 3 f) τ := by
  unfold juW
  rw [juY_u2 aj J (by omega)]; rfl
theorem juW_4 (aj : Nat → Nat) (J : Nat → Nat → Int) (τ : Nat → ClassId) (f : Nat → Int) : (juW aj J τ).set 4 (aj 4, .inl (τ 0, 24, .inl (fun j => iI (f j)))) = juW aj (u2 J 4 f) τ := by
  unfold juW
  rw [juY_u2 aj J (by omega)]; rfl
theorem juW_5 (aj : Nat → Nat) (J : Nat → Nat → Int) (τ : Nat → ClassId) (f : Nat → Int) : (juW aj J τ).set 5 (aj 5, .inl (τ 0, 36, .inl (fun j => iI (f j)))) = juW aj (u2 J 5 f) τ := by
  unfold juW
  rw [juY_u2 aj J (by omega)]; rfl
def yFrom (R : Nat → Nat → Int) (lo : Int) (i : Nat) : Int := max lo (kFirst R i)
def yTo (R : Nat → Nat → Int) (n : Nat) (hi : Int) (i : Nat) : Int := min hi (kLast R n i)
def yOk (R : Nat → Nat → Int) (n : Nat) (lo hi sp : Int) (i : Nat) : Bool := zbit sp i && decide (yFrom R lo i ≤ yTo R n hi i)
def yFi (R : Nat → Nat → Int) (n : Nat) (lo hi sp : Int) : Nat := fst (yOk R n lo hi sp) (n + 1)
def yFirst (R : Nat → Nat → Int) (n : Nat) (lo hi sp : Int) : Int := if yFi R n lo hi sp < n + 1 then yFrom R lo (yFi R n lo hi sp) else -1
def yLi (R : Nat → Nat → Int) (n : Nat) (lo hi sp : Int) : Nat := fst (fun j => yOk R n lo hi sp (n - j)) (n + 1)
def yLast (R : Nat → Nat → Int) (n : Nat) (lo hi sp : Int) : Int := if yLi R n lo hi sp < n + 1 then yTo R n hi (n - yLi R n lo hi sp) else -1
def yCount (R : Nat → Nat → Int) (n : Nat) (lo hi sp : Int) : Nat → Int := sumZ (fun i => if yOk R n lo hi sp i then yTo R n hi i - yFrom R lo i + 1 else 0)
def yHas (R : Nat → Nat → Int) (n : Nat) (lo hi sp y : Int) : Bool := decide (lo ≤ y ∧ y ≤ hi) && zbit sp (kSpan R n y)
def sDie (R : Nat → Nat → Int) (s : Nat) : Nat := (R 11 s).toNat
def sLo (R : Nat → Nat → Int) (s : Nat) : Int := dFirst R (sDie R s) (R 15 s) (R 8 (sDie R s)).toNat
def sHi (R : Nat → Nat → Int) (s : Nat) : Int := dLast R (sDie R s) (R 15 s) (R 8 (sDie R s)).toNat
def sSp (R : Nat → Nat → Int) (s : Nat) : Int := kSpans R (R 1 0).toNat (R 13 s)
def sFirst (R : Nat → Nat → Int) (s : Nat) : Int := yFirst R (R 1 0).toNat (sLo R s) (sHi R s) (sSp R s)
def dateJ (R J : Nat → Nat → Int) (n : Nat) : Nat → Nat → Int := fun k j => if j < n then (if k = 0 then sLo R j else if k = 1 then sHi R j else if k = 2 then sSp R j else if k = 4 then sFirst R j else J k j) else J k j
def ownR (R : Nat → Nat → Int) (s : Nat) : Int := if R 20 (R 12 s).toNat < R 14 s then 1 else if sSp R s = 0 then 2 else if sFirst R s = -1 then 3 else 0
def cP (R : Nat → Nat → Int) (c w : Int) (s : Nat) : Bool := decide (¬ (s : Int) = w) && (decide (R 16 s = c) && decide (ownR R s = 0))
def comL (R : Nat → Nat → Int) (c w : Int) : Nat → Int
  | 0 => 1000
  | s + 1 => if cP R c w s then (if anyB (cP R c w) s then max (comL R c w s) (sLo R s) else sLo R s) else comL R c w s
def comH (R : Nat → Nat → Int) (c w : Int) : Nat → Int
  | 0 => 1999
  | s + 1 => if cP R c w s then (if anyB (cP R c w) s then min (comH R c w s) (sHi R s) else sHi R s) else comH R c w s
def comS (R : Nat → Nat → Int) (c w : Int) : Nat → Int
  | 0 => 0
  | s + 1 => if cP R c w s then (if anyB (cP R c w) s then zand (comS R c w s) (sSp R s) else sSp R s) else comS R c w s
def comJ (R J : Nat → Nat → Int) (c w : Int) (n : Nat) : Nat → Nat → Int := yset J 30 (comL R c w n) (comH R c w n) (comS R c w n)
def chL (R : Nat → Nat → Int) (c : Int) : Int := comL R c (-1) (R 10 0).toNat
def chH (R : Nat → Nat → Int) (c : Int) : Int := comH R c (-1) (R 10 0).toNat
def chS (R : Nat → Nat → Int) (c : Int) : Int := comS R c (-1) (R 10 0).toNat
def chNo (R : Nat → Nat → Int) (c : Int) : Bool := decide (yFirst R (R 1 0).toNat (chL R c) (chH R c) (chS R c) = -1)
/-- why a seal is a fake, when the charters below i are looked at -/
def rsI (R : Nat → Nat → Int) (i : Nat) (s : Nat) : Int := if ownR R s = 0 ∧ 0 ≤ R 16 s ∧ R 16 s < i ∧ chNo R (R 16 s) = true then 4 else ownR R s
def blJ (R J : Nat → Nat → Int) (i : Nat) : Nat → Nat → Int := fun k j =>
  if k = 3 then (if (j : Int) < R 10 0 then rsI R i j else J k j) else
  if k ≤ 2 ∧ 24 ≤ j ∧ j < 24 + i then (if k = 0 then chL R (j - 24 : Nat) else if k = 1 then chH R (j - 24 : Nat) else chS R (j - 24 : Nat)) else
  if k ≤ 2 ∧ j = 30 ∧ 0 < i then (if k = 0 then chL R (i - 1 : Nat) else if k = 1 then chH R (i - 1 : Nat) else chS R (i - 1 : Nat)) else J k j
def lookJ (R J : Nat → Nat → Int) : Nat → Nat → Int := blJ R (dateJ R J (R 10 0).toNat) 6
def rsn (R : Nat → Nat → Int) (s : Nat) : Int := rsI R 6 s
