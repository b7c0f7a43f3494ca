/-! the state's cells: R k is the row (or the number) of cell k -/
def u2 (R : Nat → Nat → Int) (k : Nat) (f : Nat → Int) : Nat → Nat → Int := fun j => if j = k then f else R j
def rgW (ad : Nat → Nat) (R : Nat → Nat → Int) (τ : Nat → ClassId) : va_W := [(ad 1, .inr (3, [.int (iI (R 1 0)), .ref (ad 2), .ref (ad 3)])), (ad 2, .inl (τ 0, 10, .inl (fun j => iI (R 2 j)))), (ad 3, .inl (τ 0, 10, .inl (fun j => iI (R 3 j))))]
def dsW (ad : Nat → Nat) (R : Nat → Nat → Int) (τ : Nat → ClassId) : va_W := [(ad 4, .inr (0, [.int (iI (R 4 0)), .ref (ad 5), .ref (ad 6), .ref (ad 7), .ref (ad 8), .ref (ad 9)])), (ad 5, .inl (τ 0, 10, .inl (fun j => iI (R 5 j)))), (ad 6, .inl (τ 0, 10, .inl (fun j => iI (R 6 j)))), (ad 7, .inl (τ 0, 10, .inl (fun j => iI (R 7 j)))), (ad 8, .inl (τ 0, 10, .inl (fun j => iI (R 8 j)))), (ad 9, .inl (τ 0, 40, .inl (fun j => iI (R 9 j))))]
def slW (ad : Nat → Nat) (R : Nat → Nat → Int) (τ : Nat → ClassId) : va_W := [(ad 10, .inr (4, [.int (iI (R 10 0)), .ref (ad 11), .ref (ad 12), .ref (ad 13), .ref (ad 14), .ref (ad 15), .ref (ad 16)])), (ad 11, .inl (τ 0, 24, .inl (fun j => iI (R 11 j)))), (ad 12, .inl (τ 0, 24, .inl (fun j => iI (R 12 j)))), (ad 13, .inl (τ 0, 24, .inl (fun j => iI (R 13 j)))), (ad 14, .inl (τ 0, 24, .inl (fun j => iI (R 14 j)))), (ad 15, .inl (τ 0, 24, .inl (fun j => iI (R 15 j)))), (ad 16, .inl (τ 0, 24, .inl (fun j => iI (R 16 j))))]
def shW (ad : Nat → Nat) (R : Nat → Nat → Int) (τ : Nat → ClassId) : va_W := [(ad 17, .inr (5, [.ref (ad 18), .ref (ad 19)])), (ad 18, .inl (τ 0, 6, .inl (fun j => iI (R 18 j)))), (ad 19, .inl (τ 0, 36, .inl (fun j => iI (R 19 j))))]
def stW (ad : Nat → Nat) (R : Nat → Nat → Int) (τ : Nat → ClassId) : va_W := [(ad 0, .inr (6, [.ref (ad 1), .ref (ad 4), .ref (ad 10), .ref (ad 17), .ref (ad 20)])), (ad 1, .inr (3, [.int (iI (R 1 0)), .ref (ad 2), .ref (ad 3)])), (ad 2, .inl (τ 0, 10, .inl (fun j => iI (R 2 j)))), (ad 3, .inl (τ 0, 10, .inl (fun j => iI (R 3 j)))), (ad 4, .inr (0, [.int (iI (R 4 0)), .ref (ad 5), .ref (ad 6), .ref (ad 7), .ref (ad 8), .ref (ad 9)])), (ad 5, .inl (τ 0, 10, .inl (fun j => iI (R 5 j)))), (ad 6, .inl (τ 0, 10, .inl (fun j => iI (R 6 j)))), (ad 7, .inl (τ 0, 10, .inl (fun j => iI (R 7 j)))), (ad 8, .inl (τ 0, 10, .inl (fun j => iI (R 8 j)))), (ad 9, .inl (τ 0, 40, .inl (fun j => iI (R 9 j)))), (ad 10, .inr (4, [.int (iI (R 10 0)), .ref (ad 11), .ref (ad 12), .ref (ad 13), .ref (ad 14), .ref (ad 15), .ref (ad 16)])), (ad 11, .inl (τ 0, 24, .inl (fun j => iI (R 11 j)))), (ad 12, .inl (τ 0, 24, .inl (fun j => iI (R 12 j)))), (ad 13, .inl (τ 0, 24, .inl (fun j => iI (R 13 j)))), (ad 14, .inl (τ 0, 24, .inl (fun j => iI (R 14 j)))), (ad 15, .inl (τ 0, 24, .inl (fun j => iI (R 15 j)))), (ad 16, .inl (τ 0, 24, .inl (fun j => iI (R 16 j)))), (ad 17, .inr (5, [.ref (ad 18), .ref (ad 19)])), (ad 18, .inl (τ 0, 6, .inl (fun j => iI (R 18 j)))), (ad 19, .inl (τ 0, 36, .inl (fun j => iI (R 19 j)))), (ad 20, .inl (τ 0, 2, .inl (fun j => iI (R 20 j))))]
/-! counting, looking for the first -/
def cnt (p : Nat → Bool) : Nat → Int
  | 0 => 0
  | n + 1 => if p n then cnt p n + 1 else cnt p n
theorem cnt_le (p : Nat → Bool) : ∀ n, 0 ≤ cnt p n ∧ cnt p n ≤ n
  | 0 => ⟨Int.le_refl 0, Int.le_refl 0⟩
  | n + 1 => by
    have := cnt_le p n
    unfold cnt
    split <;> omega
theorem cnt_t {p : Nat → Bool} {n : Nat} (h : p n = true) : cnt p (n + 1) = cnt p n + 1 := by rw [cnt, h]; rfl
theorem cnt_f {p : Nat → Bool} {n : Nat} (h : p n = false) : cnt p (n + 1) = cnt p n := by rw [cnt, h]; rfl
theorem cnt_cong {p q : Nat → Bool} : ∀ {n : Nat}, (∀ k, k < n → p k = q k) → cnt p n = cnt q n
  | 0, _ => rfl
  | n + 1, h => by rw [cnt, cnt, cnt_cong (fun k hk => h k (Nat.lt_succ_of_lt hk)), h n (Nat.lt_succ_self n)]
def fst (p : Nat → Bool) : Nat → Nat
  | 0 => 0
  | n + 1 => if fst p n < n then fst p n else if p n then n else n + 1
theorem fst_le (p : Nat → Bool) : ∀ n, fst p n ≤ n
  | 0 => Nat.le_refl 0
  | n + 1 => by
    have := fst_le p n
    unfold fst
    split
    · omega
    · split <;> omega
theorem fst_none {p : Nat → Bool} : ∀ {n : Nat}, (∀ j, j < n → p j = false) → fst p n = n
  | 0, _ => rfl
  | n + 1, h => by
    have ih := fst_none (p := p) (n := n) (fun j hj => h j (by omega))
    unfold fst
    rw [ih, if_neg (Nat.lt_irrefl n), h n (Nat.lt_succ_self n)]
    rfl
theorem fst_some {p : Nat → Bool} {i : Nat} (h0 : ∀ j, j < i → p j = false) (h1 : p i = true) : ∀ {n : Nat}, i < n → fst p n = i
  | 0, h => by omega
  | n + 1, h => by
    unfold fst
    rcases Nat.lt_or_ge i n with q | q
    · rw [fst_some h0 h1 q, if_pos q]
    · have e : i = n := by omega
      subst e
      rw [fst_none h0, if_neg (Nat.lt_irrefl i), h1]
      rfl
theorem fst_lt {p : Nat → Bool} : ∀ {n : Nat}, fst p n < n → p (fst p n) = true
  | 0, h => by omega
  | n + 1, h => by
    unfold fst at h ⊢
    split
    · rename_i q; exact fst_lt q
    · rename_i q
      rw [if_neg q] at h
      split
      · rename_i q2; exact q2
      · rename_i q2; rw [if_neg q2] at h; omega
theorem fst_before {p : Nat → Bool} : ∀ {n : Nat} {j : Nat}, j < fst p n → p j = false
  | 0, j, h => by simp [fst] at h
  | n + 1, j, h => by
    unfold fst at h
    split at h
    · exact fst_before h
    · rename_i q
      have hn : fst p n = n := Nat.le_antisymm (fst_le p n) (Nat.not_lt.mp q)
      split at h
      · exact fst_before (n := n) (by omega)
      · rename_i q2
        rcases Nat.lt_or_ge j n with q3 | q3
        · exact fst_before (n := n) (by omega)
        · have e : j = n := by omega
          subst e
          exact Bool.eq_false_iff.mpr q2
theorem fst_cong {p q : Nat → Bool} : ∀ {n : Nat}, (∀ k, k < n → p k = q k) → fst p n = fst q n
  | 0, _ => rfl
  | n + 1, h => by rw [fst, fst, fst_cong (fun k hk => h k (Nat.lt_succ_of_lt hk)), h n (Nat.lt_succ_self n)]
theorem lt_step {p : Nat → Bool} {i : Nat} (h : ∀ j, j < i → p j = false) (hi : p i = false) : ∀ j, j < i + 1 → p j = false := fun j hj => by
  rcases Nat.lt_or_ge j i with q | q
  · exact h j q
  · have e : j = i := by omega
    rw [e]; exact hi
def anyB (p : Nat → Bool) : Nat → Bool
  | 0 => false
  | n + 1 => anyB p n || p n
theorem anyB_f {p : Nat → Bool} : ∀ {n : Nat}, (∀ j, j < n → p j = false) → anyB p n = false
  | 0, _ => rfl
  | n + 1, h => by unfold anyB; rw [anyB_f (fun j hj => h j (by omega)), h n (Nat.lt_succ_self n)]; rfl
theorem anyB_t {p : Nat → Bool} {i : Nat} (h1 : p i = true) : ∀ {n : Nat}, i < n → anyB p n = true
  | 0, h => by omega
  | n + 1, h => by
    unfold anyB
    rcases Nat.lt_or_ge i n with q | q
    · rw [anyB_t h1 q]; rfl
    · have e : i = n := by omega
      rw [← e, h1, Bool.or_true]
theorem anyB_cong {p q : Nat → Bool} : ∀ {n : Nat}, (∀ k, k < n → p k = q k) → anyB p n = anyB q n
  | 0, _ => rfl
  | n + 1, h => by rw [anyB, anyB, anyB_cong (fun k hk => h k (Nat.lt_succ_of_lt hk)), h n (Nat.lt_succ_self n)]
/-- the place, or -1 -/
def plI (m k : Nat) : Int := if k < m then (k : Int) else -1
theorem plI_lt {m k : Nat} (h : k < m) : plI m k = k := if_pos h
theorem plI_ge {m k : Nat} (h : m ≤ k) : plI m k = -1 := if_neg (Nat.not_lt.mpr h)
theorem plI_no {m k : Nat} (h : plI m k = -1) : m ≤ k := by
  unfold plI at h
  split at h <;> omega
theorem plI_yes {m k : Nat} (h : ¬ plI m k = -1) : k < m := by
  unfold plI at h
  split at h
  · assumption
  · exact absurd rfl h
theorem plI_r (m k : Nat) : -1 ≤ plI m k ∧ plI m k ≤ k := by
  unfold plI
  split <;> omega
/-! Reigns, Dies, Seals, Shelves: what their methods answer -/
def kBehind (R : Nat → Nat → Int) (n : Nat) (y : Int) : Bool := decide (n = 0) || decide (R 2 (n - 1) < y)
def kFirst (R : Nat → Nat → Int) (i : Nat) : Int := if i = 0 then 1000 else R 2 (i - 1)
def kLast (R : Nat → Nat → Int) (n i : Nat) : Int := if i = n then 1999 else R 2 i - 1
def kSpan (R : Nat → Nat → Int) (n : Nat) (y : Int) : Nat := fst (fun i => decide (y < R 2 i)) n
def kRight (R : Nat → Nat → Int) (c : Nat) : Nat → Int
  | 0 => 0
  | r + 1 => if zbit (R 3 r) c then zor (kRight R c r) ((2 : Int) ^ (r + 1)) else kRight R c r
def kSpans (R : Nat → Nat → Int) (n : Nat) (c : Int) : Int := if c = -1 then (2 : Int) ^ (n + 1) - 1 else kRight R c.toNat n
def dHas (n d : Int) : Bool := decide (0 ≤ d) && decide (d < n)
def dIn (R : Nat → Nat → Int) (d m : Nat) (y : Int) : Bool := anyB (fun k => decide (R 9 (d * 4 + k) = y)) m
def dFirst (R : Nat → Nat → Int) (d : Nat) (sh : Int) : Nat → Int
  | 0 => R 6 d
  | k + 1 => if zbit sh k then max (dFirst R d sh k) (R 9 (d * 4 + k)) else dFirst R d sh k
def dLast (R : Nat → Nat → Int) (d : Nat) (sh : Int) : Nat → Int
  | 0 => R 7 d
  | k + 1 => if zbit sh k then dLast R d sh k else min (dLast R d sh k) (R 9 (d * 4 + k))
def dSet (m : Nat) (x : Int) : Bool := decide (0 ≤ x) && decide (x < (2 : Int) ^ m)
def onS (R : Nat → Nat → Int) (h : Nat) (s : Int) : Nat → Bool := fun k => decide (R 19 (h * 6 + k) = s)
def shN (R : Nat → Nat → Int) (h : Nat) : Nat := (R 18 h).toNat
def pOn (R : Nat → Nat → Int) (h : Nat) (s : Int) : Nat := fst (onS R h s) (shN R h)
def sOf (R : Nat → Nat → Int) (s : Int) : Nat := fst (fun h => decide (pOn R h s < shN R h)) 6
def sumZ (f : Nat → Int) : Nat → Int
  | 0 => 0
  | n + 1 => sumZ f n + f n
