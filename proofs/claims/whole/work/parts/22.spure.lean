/-! a state that is right; what its actions answer and make -/
def SI (R : Nat → Nat → Int) : Prop := HB R ∧ (0 ≤ R 1 0 ∧ R 1 0 ≤ 10) ∧ (0 ≤ R 4 0 ∧ R 4 0 ≤ 10) ∧ (0 ≤ R 10 0 ∧ R 10 0 ≤ 24) ∧
  (∀ j : Nat, (j : Int) < R 1 0 → 1000 ≤ R 2 j ∧ R 2 j ≤ 1999 ∧ 1 ≤ R 3 j ∧ R 3 j ≤ 255) ∧ (∀ i j : Nat, i < j → (j : Int) < R 1 0 → R 2 i < R 2 j) ∧
  (∀ d : Nat, (d : Int) < R 4 0 → 0 ≤ R 5 d ∧ R 5 d ≤ 5 ∧ 1000 ≤ R 6 d ∧ R 6 d ≤ R 7 d ∧ R 7 d ≤ 1999 ∧ 0 ≤ R 8 d ∧ R 8 d ≤ 4 ∧ ∀ k : Nat, (k : Int) < R 8 d → 1000 ≤ R 9 (d * 4 + k) ∧ R 9 (d * 4 + k) ≤ 1999) ∧
  (∀ s : Nat, (s : Int) < R 10 0 → (0 ≤ R 11 s ∧ R 11 s < R 4 0) ∧ (0 ≤ R 12 s ∧ R 12 s ≤ 1) ∧ (-1 ≤ R 13 s ∧ R 13 s ≤ 7) ∧ (0 ≤ R 14 s ∧ R 14 s ≤ 99) ∧ (0 ≤ R 15 s ∧ R 15 s < 16) ∧ (-1 ≤ R 16 s ∧ R 16 s ≤ 5)) ∧
  (∀ h, h < 6 → 0 ≤ R 18 h ∧ R 18 h ≤ 6) ∧ (∀ h k : Nat, h < 6 → (k : Int) < R 18 h → 0 ≤ R 19 (h * 6 + k) ∧ R 19 (h * 6 + k) < R 10 0) ∧
  (∀ h k h2 k2 : Nat, h < 6 → h2 < 6 → (k : Int) < R 18 h → (k2 : Int) < R 18 h2 → R 19 (h * 6 + k) = R 19 (h2 * 6 + k2) → h = h2 ∧ k = k2) ∧
  (0 ≤ R 20 0 ∧ R 20 0 ≤ 99) ∧ (0 ≤ R 20 1 ∧ R 20 1 ≤ 99)
theorem SI.hB {R : Nat → Nat → Int} (h : SI R) : HB R := h.1
theorem SI.r {R : Nat → Nat → Int} (h : SI R) : 0 ≤ R 1 0 ∧ R 1 0 ≤ 10 := h.2.1
theorem SI.d {R : Nat → Nat → Int} (h : SI R) : 0 ≤ R 4 0 ∧ R 4 0 ≤ 10 := h.2.2.1
theorem SI.s {R : Nat → Nat → Int} (h : SI R) : 0 ≤ R 10 0 ∧ R 10 0 ≤ 24 := h.2.2.2.1
theorem SI.rg {R : Nat → Nat → Int} (h : SI R) : ∀ j : Nat, (j : Int) < R 1 0 → 1000 ≤ R 2 j ∧ R 2 j ≤ 1999 ∧ 1 ≤ R 3 j ∧ R 3 j ≤ 255 := h.2.2.2.2.1
theorem SI.inc {R : Nat → Nat → Int} (h : SI R) : ∀ i j : Nat, i < j → (j : Int) < R 1 0 → R 2 i < R 2 j := h.2.2.2.2.2.1
theorem SI.ds {R : Nat → Nat → Int} (h : SI R) : ∀ d : Nat, (d : Int) < R 4 0 → 0 ≤ R 5 d ∧ R 5 d ≤ 5 ∧ 1000 ≤ R 6 d ∧ R 6 d ≤ R 7 d ∧ R 7 d ≤ 1999 ∧ 0 ≤ R 8 d ∧ R 8 d ≤ 4 ∧ ∀ k : Nat, (k : Int) < R 8 d → 1000 ≤ R 9 (d * 4 + k) ∧ R 9 (d * 4 + k) ≤ 1999 := h.2.2.2.2.2.2.1
theorem SI.sl {R : Nat → Nat → Int} (h : SI R) : ∀ s : Nat, (s : Int) < R 10 0 → (0 ≤ R 11 s ∧ R 11 s < R 4 0) ∧ (0 ≤ R 12 s ∧ R 12 s ≤ 1) ∧ (-1 ≤ R 13 s ∧ R 13 s ≤ 7) ∧ (0 ≤ R 14 s ∧ R 14 s ≤ 99) ∧ (0 ≤ R 15 s ∧ R 15 s < 16) ∧ (-1 ≤ R 16 s ∧ R 16 s ≤ 5) := h.2.2.2.2.2.2.2.1
theorem SI.hN {R : Nat → Nat → Int} (h : SI R) : ∀ h, h < 6 → 0 ≤ R 18 h ∧ R 18 h ≤ 6 := h.2.2.2.2.2.2.2.2.1
theorem SI.on {R : Nat → Nat → Int} (h : SI R) : ∀ h k : Nat, h < 6 → (k : Int) < R 18 h → 0 ≤ R 19 (h * 6 + k) ∧ R 19 (h * 6 + k) < R 10 0 := h.2.2.2.2.2.2.2.2.2.1
theorem SI.one {R : Nat → Nat → Int} (h : SI R) : ∀ h k h2 k2 : Nat, h < 6 → h2 < 6 → (k : Int) < R 18 h → (k2 : Int) < R 18 h2 → R 19 (h * 6 + k) = R 19 (h2 * 6 + k2) → h = h2 ∧ k = k2 := h.2.2.2.2.2.2.2.2.2.2.1
theorem SI.w {R : Nat → Nat → Int} (h : SI R) : (0 ≤ R 20 0 ∧ R 20 0 ≤ 99) ∧ (0 ≤ R 20 1 ∧ R 20 1 ≤ 99) := h.2.2.2.2.2.2.2.2.2.2.2
theorem pow_r {m : Nat} (h : m ≤ 4) : 0 < (2 : Int) ^ m ∧ (2 : Int) ^ m ≤ 16 := by
  have : ∀ m, m < 5 → 0 < (2 : Int) ^ m ∧ (2 : Int) ^ m ≤ 16 := by decide
  exact this m (by omega)
abbrev isY (y : Int) : Prop := 1000 ≤ y ∧ y ≤ 1999
def sHas (n d : Int) : Prop := 0 ≤ d ∧ d < n
def aReign (R : Nat → Nat → Int) (y c : Int) : Int × (Nat → Nat → Int) :=
  if ¬ isY y ∨ c < 1 ∨ 256 ≤ c then (-3, R) else
  if 10 ≤ R 1 0 ∨ kBehind R (R 1 0).toNat y = false then (-4, R) else
  (R 1 0, u2 (u2 (u2 R 2 (updZ (R 2) (R 1 0).toNat y)) 3 (updZ (R 3) (R 1 0).toNat c)) 1 (fun _ => R 1 0 + 1))
def aDie (R : Nat → Nat → Int) (h a b : Int) : Int × (Nat → Nat → Int) :=
  if h < 0 ∨ 6 ≤ h ∨ ¬ isY a ∨ ¬ isY b ∨ b < a then (-3, R) else
  if 10 ≤ R 4 0 then (-4, R) else
  (R 4 0, u2 (u2 (u2 (u2 (u2 R 5 (updZ (R 5) (R 4 0).toNat h)) 6 (updZ (R 6) (R 4 0).toNat a)) 7 (updZ (R 7) (R 4 0).toNat b)) 8 (updZ (R 8) (R 4 0).toNat 0)) 4 (fun _ => R 4 0 + 1))
def aCrack (R : Nat → Nat → Int) (d y : Int) : Int × (Nat → Nat → Int) :=
  if d < 0 ∨ R 4 0 ≤ d then (-2, R) else
  if ¬ isY y then (-3, R) else
  if 4 ≤ R 8 d.toNat ∨ dIn R d.toNat (R 8 d.toNat).toNat y = true then (-4, R) else
  (R 8 d.toNat, u2 (u2 R 9 (updZ (R 9) (d.toNat * 4 + (R 8 d.toNat).toNat) y)) 8 (updZ (R 8) d.toNat (R 8 d.toNat + 1)))
def aSeal (R : Nat → Nat → Int) (d a q z x : Int) : Int × (Nat → Nat → Int) :=
  if d < 0 ∨ R 4 0 ≤ d then (-2, R) else
  if a < 0 ∨ 2 ≤ a ∨ q < -1 ∨ 8 ≤ q ∨ z < 0 ∨ 99 < z ∨ x < 0 ∨ (2 : Int) ^ (R 8 d.toNat).toNat ≤ x then (-3, R) else
  if 24 ≤ R 10 0 then (-4, R) else
  (R 10 0, u2 (u2 (u2 (u2 (u2 (u2 (u2 R 11 (updZ (R 11) (R 10 0).toNat d)) 12 (updZ (R 12) (R 10 0).toNat a)) 13 (updZ (R 13) (R 10 0).toNat q)) 14 (updZ (R 14) (R 10 0).toNat z)) 15 (updZ (R 15) (R 10 0).toNat x)) 16 (updZ (R 16) (R 10 0).toNat (-1))) 10 (fun _ => R 10 0 + 1))
def aShow (R : Nat → Nat → Int) (t x : Int) : Int × (Nat → Nat → Int) :=
  if t < 0 ∨ R 10 0 ≤ t then (-2, R) else
  if x < 0 ∨ (2 : Int) ^ (R 8 (R 11 t.toNat).toNat).toNat ≤ x then (-3, R) else
  (R 15 t.toNat, u2 R 15 (updZ (R 15) t.toNat x))
def aHang (R : Nat → Nat → Int) (t q : Int) : Int × (Nat → Nat → Int) :=
  if t < 0 ∨ R 10 0 ≤ t ∨ q < 0 ∨ 6 ≤ q then (-2, R) else
  (cnt (fun s => decide (updZ (R 16) t.toNat q s = q)) (R 10 0).toNat, u2 R 16 (updZ (R 16) t.toNat q))
def aCut (R : Nat → Nat → Int) (t : Int) : Int × (Nat → Nat → Int) :=
  if t < 0 ∨ R 10 0 ≤ t then (-2, R) else
  if R 16 t.toNat = -1 then (-4, R) else
  (R 16 t.toNat, u2 R 16 (updZ (R 16) t.toNat (-1)))
def hsO (R : Nat → Nat → Int) (t : Nat) : Int := R 5 (R 11 t).toNat
def oth (R : Nat → Nat → Int) (h : Nat) (t : Int) : Int := if pOn R h t < shN R h then R 18 h - 1 else R 18 h
def othH (R : Nat → Nat → Int) (h t : Nat) : Bool := anyB (fun k => decide (¬ hsO R (R 19 (h * 6 + k)).toNat = hsO R t)) (shN R h)
def aShelve (R : Nat → Nat → Int) (t h k : Int) : Int × (Nat → Nat → Int) :=
  if t < 0 ∨ R 10 0 ≤ t ∨ h < 0 ∨ 6 ≤ h then (-2, R) else
  if k < 0 ∨ oth R h.toNat t < k then (-3, R) else
  if 6 ≤ oth R h.toNat t ∨ othH R h.toNat t.toNat = true then (-4, R) else
  ((inR (rmR R t) h.toNat k.toNat t) 18 h.toNat, inR (rmR R t) h.toNat k.toNat t)
def aTake (R : Nat → Nat → Int) (t : Int) : Int × (Nat → Nat → Int) :=
  if t < 0 ∨ R 10 0 ≤ t then (-2, R) else
  if sOf R t = 6 then (-4, R) else
  (sOf R t, rmR R t)
def aSet (R : Nat → Nat → Int) (a v : Int) : Int × (Nat → Nat → Int) :=
  if a < 0 ∨ 2 ≤ a ∨ v < 0 ∨ 99 < v then (-3, R) else
  (R 20 a.toNat, u2 R 20 (updZ (R 20) a.toNat v))
def R00 (R : Nat → Nat → Int) : Nat → Nat → Int := u2 (u2 (u2 (u2 (u2 R 1 (fun _ => 0)) 4 (fun _ => 0)) 10 (fun _ => 0)) 18 (zf (R 18) 6)) 20 (updZ (updZ (R 20) 0 10) 1 3)
