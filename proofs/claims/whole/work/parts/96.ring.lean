/-! the undo ring and the book; one block out of a row of blocks -/
def bkx {α : Type} (B : α → va_W) (v : Nat → α) (p : Nat) : Nat → va_W
  | 0 => []
  | i + 1 => if i = p then bkx B v p i else bkx B v p i ++ B (v i)
theorem bkx_le {α : Type} (B : α → va_W) (v : Nat → α) {p : Nat} : ∀ n : Nat, n ≤ p → bkx B v p n = bk B v n
  | 0, _ => rfl
  | n + 1, h => by
    show (if n = p then bkx B v p n else bkx B v p n ++ B (v n)) = bk B v n ++ B (v n)
    rw [if_neg (by omega), bkx_le B v n (by omega)]
theorem bk_x {α : Type} (B : α → va_W) (v : Nat → α) {p : Nat} : ∀ n : Nat, p < n → (bk B v n).Perm (B (v p) ++ bkx B v p n)
  | 0, h => absurd h (Nat.not_lt_zero _)
  | n + 1, h => by
    show (bk B v n ++ B (v n)).Perm (B (v p) ++ (if n = p then bkx B v p n else bkx B v p n ++ B (v n)))
    by_cases c : n = p
    · subst c
      rw [if_pos rfl, bkx_le B v n (Nat.le_refl _)]
      exact List.perm_append_comm
    · rw [if_neg c, ← List.append_assoc]
      exact (bk_x B v n (by omega)).append_right _
theorem bkx_nu {α : Type} (B : α → va_W) (v : Nat → α) (p : Nat) (q : α) : ∀ n : Nat, bkx B (nu v p q) p n = bkx B v p n
  | 0 => rfl
  | n + 1 => by
    show (if n = p then bkx B (nu v p q) p n else bkx B (nu v p q) p n ++ B (nu v p q n)) = (if n = p then bkx B v p n else bkx B v p n ++ B (v n))
    rw [bkx_nu B v p q n]
    by_cases c : n = p
    · rw [if_pos c, if_pos c]
    · have e : nu v p q n = v n := if_neg c
      rw [if_neg c, if_neg c, e]
/-- another block at a place -/
theorem bk_nu {α : Type} (B : α → va_W) (v : Nat → α) {p n : Nat} (q : α) (h : p < n) : (bk B (nu v p q) n).Perm (B q ++ bkx B v p n) := by
  have h1 := bk_x B (nu v p q) n h
  have e : nu v p q p = q := if_pos rfl
  rw [e, bkx_nu] at h1
  exact h1
/-- what the class's ring holds, and what the reference's book holds -/
def RG (n o : Int) (RR B : Nat → Nat → Nat → Int) : Prop := (0 ≤ n ∧ n ≤ 14) ∧ (0 ≤ o ∧ o < 14) ∧ ∀ j : Nat, (j : Int) < n → SI (RR ((o + (j : Int)) % 14).toNat) ∧ SI (B j) ∧ EQ (RR ((o + (j : Int)) % 14).toNat) (B j)
theorem RG_0 {o : Int} (RR B : Nat → Nat → Nat → Int) (ho : 0 ≤ o ∧ o < 14) : RG 0 o RR B := ⟨⟨by omega, by omega⟩, ho, fun j hj => by omega⟩
theorem RG_push {n o : Int} {RR B : Nat → Nat → Nat → Int} {R Q : Nat → Nat → Int} (h : RG n o RR B) (hR : SI R) (hQ : SI Q) (e : EQ R Q) : RG (mN n) (mO n o) (nu RR ((o + n) % 14).toNat R) (rmB n B Q).2 ∧ (rmB n B Q).1 = mN n := by
  obtain ⟨hn, ho, hj⟩ := h
  by_cases c : n = 14
  · have e1 : mN n = 14 := by
      show (if n < 14 then n + 1 else n) = 14
      rw [if_neg (by omega), c]
    have e2 : mO n o = (o + 1) % 14 := by
      show (if n < 14 then o else (o + 1) % 14) = _
      rw [if_neg (by omega)]
    have e3 : rmB n B Q = (14, upB (drB B) 13 Q) := if_pos c
    rw [e1, e2, e3]
    refine ⟨⟨by omega, by omega, fun j h9 => ?_⟩, rfl⟩
    by_cases c2 : j = 13
    · have p1 : (((o + 1) % 14 + (j : Int)) % 14).toNat = ((o + n) % 14).toNat := by omega
      have p2 : nu RR ((o + n) % 14).toNat R (((o + 1) % 14 + (j : Int)) % 14).toNat = R := if_pos p1
      have p3 : upB (drB B) 13 Q j = Q := if_pos c2
      show SI (nu RR ((o + n) % 14).toNat R (((o + 1) % 14 + (j : Int)) % 14).toNat) ∧ SI (upB (drB B) 13 Q j) ∧ EQ (nu RR ((o + n) % 14).toNat R (((o + 1) % 14 + (j : Int)) % 14).toNat) (upB (drB B) 13 Q j)
      rw [p2, p3]
      exact ⟨hR, hQ, e⟩
    · have p0 : ¬ (((o + 1) % 14 + (j : Int)) % 14).toNat = ((o + n) % 14).toNat := by omega
      have p1 : (((o + 1) % 14 + (j : Int)) % 14).toNat = ((o + ((j + 1 : Nat) : Int)) % 14).toNat := by omega
      have p2 : nu RR ((o + n) % 14).toNat R (((o + 1) % 14 + (j : Int)) % 14).toNat = RR (((o + 1) % 14 + (j : Int)) % 14).toNat := if_neg p0
      have p3 : upB (drB B) 13 Q j = drB B j := if_neg c2
      have p4 : drB B j = B (j + 1) := if_pos (by omega)
      show SI (nu RR ((o + n) % 14).toNat R (((o + 1) % 14 + (j : Int)) % 14).toNat) ∧ SI (upB (drB B) 13 Q j) ∧ EQ (nu RR ((o + n) % 14).toNat R (((o + 1) % 14 + (j : Int)) % 14).toNat) (upB (drB B) 13 Q j)
      rw [p2, p3, p4, p1]
      exact hj (j + 1) (by omega)
  · have e1 : mN n = n + 1 := if_pos (by omega)
    have e2 : mO n o = o := if_pos (by omega)
    have e3 : rmB n B Q = (n + 1, upB B n.toNat Q) := if_neg c
    rw [e1, e2, e3]
    refine ⟨⟨by omega, ho, fun j h9 => ?_⟩, rfl⟩
    show SI (nu RR ((o + n) % 14).toNat R ((o + (j : Int)) % 14).toNat) ∧ SI (upB B n.toNat Q j) ∧ EQ (nu RR ((o + n) % 14).toNat R ((o + (j : Int)) % 14).toNat) (upB B n.toNat Q j)
    by_cases c2 : j = n.toNat
    · have p1 : ((o + (j : Int)) % 14).toNat = ((o + n) % 14).toNat := by omega
      have p2 : nu RR ((o + n) % 14).toNat R ((o + (j : Int)) % 14).toNat = R := if_pos p1
      have p3 : upB B n.toNat Q j = Q := if_pos c2
      rw [p2, p3]
      exact ⟨hR, hQ, e⟩
    · have p0 : ¬ ((o + (j : Int)) % 14).toNat = ((o + n) % 14).toNat := by omega
      have p2 : nu RR ((o + n) % 14).toNat R ((o + (j : Int)) % 14).toNat = RR ((o + (j : Int)) % 14).toNat := if_neg p0
      have p3 : upB B n.toNat Q j = B j := if_neg c2
      rw [p2, p3]
      exact hj j (by omega)
theorem RG_pop {n o : Int} {RR B : Nat → Nat → Nat → Int} (h : RG n o RR B) (h0 : 0 < n) (R : Nat → Nat → Int) : (SI (RR ((o + (n - 1)) % 14).toNat) ∧ SI (B (n - 1).toNat) ∧ EQ (RR ((o + (n - 1)) % 14).toNat) (B (n - 1).toNat)) ∧ RG (n - 1) o (nu RR ((o + (n - 1)) % 14).toNat R) B := by
  obtain ⟨hn, ho, hj⟩ := h
  have h1 := hj (n - 1).toNat (by omega)
  have e1 : (((n - 1).toNat : Nat) : Int) = n - 1 := by omega
  rw [e1] at h1
  refine ⟨h1, ⟨by omega, by omega⟩, ho, fun j h9 => ?_⟩
  have p0 : ¬ ((o + (j : Int)) % 14).toNat = ((o + (n - 1)) % 14).toNat := by omega
  have p2 : nu RR ((o + (n - 1)) % 14).toNat R ((o + (j : Int)) % 14).toNat = RR ((o + (j : Int)) % 14).toNat := if_neg p0
  rw [p2]
  exact hj j (by omega)
/-- a place of the ring, one of its states -/
theorem rg_p {n o : Int} (ho : 0 ≤ o ∧ o < 14) (hn : 0 ≤ n) : ((o + n) % 14).toNat < 14 := by omega
