/-! the state's cells: R k is the row (or the number) of cell k -/
def u2 (R : Nat → Nat → Int32) (k : Nat) (f : Nat → Int32) : Nat → Nat → Int32 := fun j => if j = k then f else R j
def rgW (ad : Nat → Nat) (R : Nat → Nat → Int32) (τ : Nat → ClassId) : va_W := [(ad 1, .inr (3, [.int (R 1 0), .ref (ad 2), .ref (ad 3)])), (ad 2, .inl (τ 0, 10, .inl (R 2))), (ad 3, .inl (τ 0, 10, .inl (R 3)))]
def dsW (ad : Nat → Nat) (R : Nat → Nat → Int32) (τ : Nat → ClassId) : va_W := [(ad 4, .inr (0, [.int (R 4 0), .ref (ad 5), .ref (ad 6), .ref (ad 7), .ref (ad 8), .ref (ad 9)])), (ad 5, .inl (τ 0, 10, .inl (R 5))), (ad 6, .inl (τ 0, 10, .inl (R 6))), (ad 7, .inl (τ 0, 10, .inl (R 7))), (ad 8, .inl (τ 0, 10, .inl (R 8))), (ad 9, .inl (τ 0, 40, .inl (R 9)))]
def slW (ad : Nat → Nat) (R : Nat → Nat → Int32) (τ : Nat → ClassId) : va_W := [(ad 10, .inr (4, [.int (R 10 0), .ref (ad 11), .ref (ad 12), .ref (ad 13), .ref (ad 14), .ref (ad 15), .ref (ad 16)])), (ad 11, .inl (τ 0, 24, .inl (R 11))), (ad 12, .inl (τ 0, 24, .inl (R 12))), (ad 13, .inl (τ 0, 24, .inl (R 13))), (ad 14, .inl (τ 0, 24, .inl (R 14))), (ad 15, .inl (τ 0, 24, .inl (R 15))), (ad 16, .inl (τ 0, 24, .inl (R 16)))]
def shW (ad : Nat → Nat) (R : Nat → Nat → Int32) (τ : Nat → ClassId) : va_W := [(ad 17, .inr (5, [.ref (ad 18), .ref (ad 19)])), (ad 18, .inl (τ 0, 6, .inl (R 18))), (ad 19, .inl (τ 0, 36, .inl (R 19)))]
def stW (ad : Nat → Nat) (R : Nat → Nat → Int32) (τ : Nat → ClassId) : va_W := [(ad 0, .inr (6, [.ref (ad 1), .ref (ad 4), .ref (ad 10), .ref (ad 17), .ref (ad 20)])), (ad 1, .inr (3, [.int (R 1 0), .ref (ad 2), .ref (ad 3)])), (ad 2, .inl (τ 0, 10, .inl (R 2))), (ad 3, .inl (τ 0, 10, .inl (R 3))), (ad 4, .inr (0, [.int (R 4 0), .ref (ad 5), .ref (ad 6), .ref (ad 7), .ref (ad 8), .ref (ad 9)])), (ad 5, .inl (τ 0, 10, .inl (R 5))), (ad 6, .inl (τ 0, 10, .inl (R 6))), (ad 7, .inl (τ 0, 10, .inl (R 7))), (ad 8, .inl (τ 0, 10, .inl (R 8))), (ad 9, .inl (τ 0, 40, .inl (R 9))), (ad 10, .inr (4, [.int (R 10 0), .ref (ad 11), .ref (ad 12), .ref (ad 13), .ref (ad 14), .ref (ad 15), .ref (ad 16)])), (ad 11, .inl (τ 0, 24, .inl (R 11))), (ad 12, .inl (τ 0, 24, .inl (R 12))), (ad 13, .inl (τ 0, 24, .inl (R 13))), (ad 14, .inl (τ 0, 24, .inl (R 14))), (ad 15, .inl (τ 0, 24, .inl (R 15))), (ad 16, .inl (τ 0, 24, .inl (R 16))), (ad 17, .inr (5, [.ref (ad 18), .ref (ad 19)])), (ad 18, .inl (τ 0, 6, .inl (R 18))), (ad 19, .inl (τ 0, 36, .inl (R 19))), (ad 20, .inl (τ 0, 2, .inl (R 20)))]
/-! counting, looking for the first -/
def cntI (p : Nat → Bool) : Nat → Int32
  | 0 => 0
  | n + 1 => if p n then cntI p n + 1 else cntI p n
def cntN (p : Nat → Bool) : Nat → Nat
  | 0 => 0
  | n + 1 => if p n then cntN p n + 1 else cntN p n
theorem cntN_le (p : Nat → Bool) : ∀ n, cntN p n ≤ n
  | 0 => Nat.le_refl 0
  | n + 1 => by
    have := cntN_le p n
    unfold cntN
    split <;> omega
theorem cntI_N (p : Nat → Bool) : ∀ n, cntI p n = nI (cntN p n)
  | 0 => rfl
  | n + 1 => by
    unfold cntI cntN
    split
    · rw [cntI_N p n, nI_1]
    · exact cntI_N p n
def fst (p : Nat → Bool) : Nat → Nat
  | 0 => 0
  | n + 1 => if fst p n < n then fst p n else if p n then n else n + 1
theorem fst_le (p : Nat → Bool) : ∀ n, fst p n ≤ n
  | 0 => Nat.le_refl 0
  | n + 1 => by
    have := fst_le p n
    unfold fst
    split
    · omega
    · split <;> omega
theorem fst_none {p : Nat → Bool} : ∀ {n : Nat}, (∀ j, j < n → p j = false) → fst p n = n
  | 0, _ => rfl
  | n + 1, h => by
    have ih := fst_none (p := p) (n := n) (fun j hj => h j (by omega))
    unfold fst
    rw [ih, if_neg (Nat.lt_irrefl n), h n (Nat.lt_succ_self n)]
    rfl
theorem fst_some {p : Nat → Bool} {i : Nat} (h0 : ∀ j, j < i → p j = false) (h1 : p i = true) : ∀ {n : Nat}, i < n → fst p n = i
  | 0, h => by omega
  | n + 1, h => by
    unfold fst
    rcases Nat.lt_or_ge i n with q | q
    · rw [fst_some h0 h1 q, if_pos q]
    · have e : i = n := by omega
      subst e
      rw [fst_none h0, if_neg (Nat.lt_irrefl i), h1]
      rfl
theorem fst_lt {p : Nat → Bool} : ∀ {n : Nat}, fst p n < n → p (fst p n) = true
  | 0, h => by omega
  | n + 1, h => by
    unfold fst at h ⊢
    split
    · rename_i q; exact fst_lt q
    · rename_i q
      rw [if_neg q] at h
      split
      · rename_i q2; exact q2
      · rename_i q2; rw [if_neg q2] at h; omega
theorem fst_before {p : Nat → Bool} : ∀ {n : Nat} {j : Nat}, j < fst p n → p j = false
  | 0, j, h => by simp [fst] at h
  | n + 1, j, h => by
    unfold fst at h
    split at h
    · exact fst_before h
    · rename_i q
      have hn : fst p n = n := Nat.le_antisymm (fst_le p n) (Nat.not_lt.mp q)
      split at h
      · exact fst_before (n := n) (by omega)
      · rename_i q2
        rcases Nat.lt_or_ge j n with q3 | q3
        · exact fst_before (n := n) (by omega)
        · have e : j = n := by omega
          subst e
          exact Bool.eq_false_iff.mpr q2
theorem lt_step {p : Nat → Bool} {i : Nat} (h : ∀ j, j < i → p j = false) (hi : p i = false) : ∀ j, j < i + 1 → p j = false := fun j hj => by
  rcases Nat.lt_or_ge j i with q | q
  · exact h j q
  · have e : j = i := by omega
    rw [e]; exact hi
def anyB (p : Nat → Bool) : Nat → Bool
  | 0 => false
  | n + 1 => anyB p n || p n
theorem anyB_f {p : Nat → Bool} : ∀ {n : Nat}, (∀ j, j < n → p j = false) → anyB p n = false
  | 0, _ => rfl
  | n + 1, h => by unfold anyB; rw [anyB_f (fun j hj => h j (by omega)), h n (Nat.lt_succ_self n)]; rfl
theorem anyB_t {p : Nat → Bool} {i : Nat} (h1 : p i = true) : ∀ {n : Nat}, i < n → anyB p n = true
  | 0, h => by omega
  | n + 1, h => by
    unfold anyB
    rcases Nat.lt_or_ge i n with q | q
    · rw [anyB_t h1 q]; rfl
    · have e : i = n := by omega
      rw [← e, h1, Bool.or_true]
def plI (m k : Nat) : Int32 := if k < m then nI k else -1
theorem nI_m1 {k : Nat} (h : k < 2 ^ 31) : ¬ nI k = -1 := fun e => nI_pos h (by rw [e]; decide)
theorem plI_no {m k : Nat} (hm : m < 2 ^ 31) (h : plI m k = -1) : m ≤ k := by
  unfold plI at h
  split at h
  · rename_i q; exact absurd h (nI_m1 (Nat.lt_trans q hm))
  · omega
theorem plI_yes {m k : Nat} (h : ¬ plI m k = -1) : k < m := by
  unfold plI at h
  split at h
  · assumption
  · exact absurd rfl h
theorem plI_lt {m k : Nat} (h : k < m) : plI m k = nI k := if_pos h
theorem plI_ge {m k : Nat} (h : m ≤ k) : plI m k = -1 := if_neg (Nat.not_lt.mpr h)
/-! Reigns, Dies, Seals, Shelves: what their methods answer -/
def bitB (x : Int32) (k : Nat) : Bool := decide (¬ (x >>> (nI k &&& 31)) &&& 1 = 0)
def kBehind (R : Nat → Nat → Int32) (n : Nat) (y : Int32) : Bool := decide (n = 0) || decide (R 2 (n - 1) < y)
def kFirst (R : Nat → Nat → Int32) (i : Nat) : Int32 := if i = 0 then 1000 else R 2 (i - 1)
def kLast (R : Nat → Nat → Int32) (n i : Nat) : Int32 := if i = n then 1999 else R 2 i - 1
def kSpan (R : Nat → Nat → Int32) (n : Nat) (y : Int32) : Nat := fst (fun i => decide (¬ R 2 i ≤ y)) n
def kRight (R : Nat → Nat → Int32) (c : Int32) : Nat → Int32
  | 0 => 0
  | r + 1 => if bitB' (R 3 r) c then kRight R c r ||| ((1 : Int32) <<< ((nI r + 1) &&& 31)) else kRight R c r
where bitB' (x c : Int32) : Bool := decide (¬ (x >>> (c &&& 31)) &&& 1 = 0)
def kSpans (R : Nat → Nat → Int32) (n : Nat) (c : Int32) : Int32 := if c = -1 then (1 : Int32) <<< ((nI n + 1) &&& 31) - 1 else kRight R c n
def dHas (n d : Int32) : Bool := decide (0 ≤ d) && decide (d < n)
def dYear (R : Nat → Nat → Int32) (d k : Nat) : Int32 := R 9 (d * 4 + k)
def dIn (R : Nat → Nat → Int32) (d m : Nat) (y : Int32) : Bool := anyB (fun k => decide (R 9 (d * 4 + k) = y)) m
def dFirst (R : Nat → Nat → Int32) (d : Nat) (sh : Int32) : Nat → Int32
  | 0 => R 6 d
  | k + 1 => if bitB sh k then imax (dFirst R d sh k) (R 9 (d * 4 + k)) else dFirst R d sh k
def dLast (R : Nat → Nat → Int32) (d : Nat) (sh : Int32) : Nat → Int32
  | 0 => R 7 d
  | k + 1 => if bitB sh k then dLast R d sh k else imin (dLast R d sh k) (R 9 (d * 4 + k))
def dSet (m : Nat) (x : Int32) : Bool := decide (0 ≤ x) && decide (x < (1 : Int32) <<< (nI m &&& 31))
def onS (R : Nat → Nat → Int32) (h : Nat) (s : Int32) : Nat → Bool := fun k => decide (R 19 (h * 6 + k) = s)
def pOn (R : Nat → Nat → Int32) (m : Nat → Nat) (h : Nat) (s : Int32) : Nat := fst (onS R h s) (m h)
def sOf (R : Nat → Nat → Int32) (m : Nat → Nat) (s : Int32) : Nat := fst (fun h => decide (pOn R m h s < m h)) 6
def sumI (f : Nat → Int32) : Nat → Int32
  | 0 => 0
  | n + 1 => sumI f n + f n
