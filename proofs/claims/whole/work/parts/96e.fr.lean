/-! a contract over a part of the world is one over the whole -/
theorem inW_pm {w0 wc wr : va_W} (hp : w0.Perm (wc ++ wr)) (q : Nat) (h : inW wc q) : inW w0 q := by
  obtain ⟨k, e, hk⟩ := h
  obtain ⟨i, hi⟩ := List.getElem?_of_mem (hp.mem_iff.mpr (List.mem_append_left _ (List.mem_of_getElem? hk)))
  exact ⟨i, e, hi⟩
theorem uMet.fr {l : Launch} {y : MethodName} {ws : List Cond} {rm : Room} {g : va_G} {τ : Nat → ClassId} {av : List Value} {wc w0 wr : va_W} {Z Z2 : Option Value → va_W → Prop} {Zx Zx2 : String → va_W → Prop} (h : uMet l y ws rm g τ av wc Z Zx) (hp : w0.Perm (wc ++ wr)) (hf : ∀ v w1, Z v w1 → w1.map Prod.fst = wc.map Prod.fst) (hfx : ∀ E w1, Zx E w1 → w1.map Prod.fst = wc.map Prod.fst) (hZ : ∀ v w1, Z v w1 → ∃ w2, (w1 ++ wr).Perm w2 ∧ Z2 v w2) (hX : ∀ E w1, Zx E w1 → ∃ w2, (w1 ++ wr).Perm w2 ∧ Zx2 E w2) : uMet l y ws rm g τ av w0 Z2 Zx2 := by
  have h2 : MetFree l y (headSpec ws rm) (va_Pc av (xW g τ wc)) (fun _ _ _ _ _ => True) (vx_Q (rwQ g Z (inW wc)) (uX g Zx (inW wc)) 1 6 (inW wc)) := h
  show MetFree l y (headSpec ws rm) (va_Pc av (xW g τ w0)) (fun _ _ _ _ _ => True) (vx_Q (rwQ g Z2 (inW w0)) (uX g Zx2 (inW w0)) 1 6 (inW w0))
  have hin := inW_pm hp
  refine h2.mono (fun a s hv => ?_) (fun _ _ _ _ _ z => z) (fun a s o t hv hq => ?_)
  · obtain ⟨ha, ⟨hP, hD, hK⟩, hT, hU⟩ := hv
    exact ⟨ha, ⟨va_left (hP.pm hp), (hD.pm hp).left, hK⟩, hT, hU.narrow hin⟩
  · obtain ⟨ha, ⟨hP, hD, hK⟩, hT, hU⟩ := hv
    have hP2 := hP.pm hp
    have hD2 := hD.pm hp
    rcases hq with ⟨⟨v, w1, hz, ho, hP1, hs, hk⟩, L, hL, hfr⟩ | ⟨q, ho, E, ce, L, ⟨w1, hz, hP1, hs, hk⟩, c1, c2, c3, c4, c5, c6⟩
    · obtain ⟨b1, -⟩ := u_back hP2 hD2 (hf _ _ hz) hk hP1
      obtain ⟨w2, hw, hz2⟩ := hZ _ _ hz
      exact Or.inl ⟨⟨v, w2, hz2, ho, b1.pm hw, hs, fun q h1 h3 => hk q h1 (fun z => h3 (hin q z))⟩, L, hL, fun q hq => hin _ (hfr q hq)⟩
    · obtain ⟨b1, -⟩ := u_back hP2 hD2 (hfx _ _ hz) hk hP1
      obtain ⟨w2, hw, hz2⟩ := hX _ _ hz
      exact Or.inr ⟨q, ho, E, ce, L, ⟨w2, hz2, b1.pm hw, hs, fun q h1 h3 => hk q h1 (fun z => h3 (hin q z))⟩, c1, c2, c3, c4, c5, fun z hz => hin _ (c6 z hz)⟩
theorem rwfr {l : Launch} {y : MethodName} {ws : List Cond} {rm : Room} {g : va_G} {τ : Nat → ClassId} {av : List Value} {wc w0 wr : va_W} {Z Z2 : Option Value → va_W → Prop} (h : Met l y ws rm (va_Pc av (rwW g τ wc)) (rwQ g Z (inW wc)) 0 0 (inW wc)) (hp : w0.Perm (wc ++ wr)) (hf : ∀ v w1, Z v w1 → w1.map Prod.fst = wc.map Prod.fst) (hZ : ∀ v w1, Z v w1 → ∃ w2, (w1 ++ wr).Perm w2 ∧ Z2 v w2) : Met l y ws rm (va_Pc av (rwW g τ w0)) (rwQ g Z2 (inW w0)) 0 0 (inW w0) := by
  have h2 : MetFree l y (headSpec ws rm) (va_Pc av (rwW g τ wc)) (fun _ _ _ _ _ => True) (fun a st o t => rwQ g Z (inW wc) a st o t ∧ ∃ L, FrameEnd st o t L 0 0 ∧ ∀ q ∈ L, inW wc q.base) := h
  show MetFree l y (headSpec ws rm) (va_Pc av (rwW g τ w0)) (fun _ _ _ _ _ => True) (fun a st o t => rwQ g Z2 (inW w0) a st o t ∧ ∃ L, FrameEnd st o t L 0 0 ∧ ∀ q ∈ L, inW w0 q.base)
  have hin := inW_pm hp
  refine h2.mono (fun a s hv => ?_) (fun _ _ _ _ _ z => z) (fun a s o t hv hq => ?_)
  · obtain ⟨ha, hP, hD, hK⟩ := hv
    exact ⟨ha, va_left (hP.pm hp), (hD.pm hp).left, hK⟩
  · obtain ⟨ha, hP, hD, hK⟩ := hv
    have hP2 := hP.pm hp
    have hD2 := hD.pm hp
    obtain ⟨⟨v, w1, hz, ho, hP1, hs, hk⟩, L, hL, hfr⟩ := hq
    obtain ⟨b1, -⟩ := u_back hP2 hD2 (hf _ _ hz) hk hP1
    obtain ⟨w2, hw, hz2⟩ := hZ _ _ hz
    exact ⟨⟨v, w2, hz2, ho, b1.pm hw, hs, fun q h1 h3 => hk q h1 (fun z => h3 (hin q z))⟩, L, hL, fun q hq => hin _ (hfr q hq)⟩
theorem map_ap {a a2 b b2 : va_W} (h1 : a.map Prod.fst = a2.map Prod.fst) (h2 : b.map Prod.fst = b2.map Prod.fst) : (a ++ b).map Prod.fst = (a2 ++ b2).map Prod.fst := by rw [List.map_append, List.map_append, h1, h2]
theorem f_juw (aj : Nat → Nat) (J J2 : Nat → Nat → Int) (τ : Nat → ClassId) : (juW aj J2 τ).map Prod.fst = (juW aj J τ).map Prod.fst := by
  have e : ∀ J, (juW aj J τ).map Prod.fst = [aj 0, aj 1, aj 2, aj 3, aj 4, aj 5] ++ (List.range 31).map (fun i => aj (10 + i)) := fun J => by
    unfold juW juY
    rw [List.map_append, List.map_map]
    rfl
  rw [e, e]
theorem bk_f {α : Type} (B : α → va_W) {v v2 : Nat → α} : ∀ n : Nat, (∀ j, j < n → (B (v j)).map Prod.fst = (B (v2 j)).map Prod.fst) → (bk B v n).map Prod.fst = (bk B v2 n).map Prod.fst
  | 0, _ => rfl
  | n + 1, h => by
    show (bk B v n ++ B (v n)).map Prod.fst = (bk B v2 n ++ B (v2 n)).map Prod.fst
    exact map_ap (bk_f B n (fun j hj => h j (by omega))) (h n (by omega))
/-! what a call comes to: the kind of refusal k, the answer val, the world behind it -/
def Wn (w0 : va_W) (k : Int) (P0 P1 : va_W → Prop) (w : va_W) : Prop := w.map Prod.fst = w0.map Prod.fst ∧ (k = 0 → P0 w) ∧ (¬ k = 0 → P1 w)
def W3 (k : Int) (Wk : va_W → Prop) (w : va_W) : Prop := (0 ≤ k ∧ k ≤ 3) ∧ Wk w
def ZK (k val : Int) (Wk : va_W → Prop) (v : Option Value) (w : va_W) : Prop := k = 0 ∧ v = some (.int (iI val)) ∧ Wk w
def XK (kE : String → Prop) (Wk : va_W → Prop) (E : String) (w : va_W) : Prop := kE E ∧ Wk w
abbrev kx1 (E1 : String) (k : Int) (E : String) : Prop := k = 1 ∧ E = E1
abbrev kx2 (E1 E2 : String) (k : Int) (E : String) : Prop := (k = 1 ∧ E = E1) ∨ (k = 2 ∧ E = E2)
abbrev kx3 (E1 E2 E3 : String) (k : Int) (E : String) : Prop := (k = 1 ∧ E = E1) ∨ (k = 2 ∧ E = E2) ∨ (k = 3 ∧ E = E3)
section SOK
variable {k val : Int} {Wk : va_W → Prop} {oa : Nat} {z0 : Int64} {τ : Nat → ClassId} {v : Option Value} {w : va_W} {E1 E2 E3 : String}
theorem so_ok (h : LR (ZK k val Wk) oa τ v w) : SO k val (W3 k Wk) oa τ v w := so_R h (fun x w1 hz => ⟨hz.1, by injection hz.2.1 with h1; injection h1, by have := hz.1; omega, hz.2.2⟩)
theorem so1 (h : LR (ZK k val Wk) oa τ v w ∨ LX (XK (kx1 E1 k) Wk) E1 1 oa z0 τ v w) : SO k val (W3 k Wk) oa τ v w := by
  rcases h with h | h
  · exact so_ok h
  · exact so_X h (by decide) (fun w1 hx => ⟨hx.1.1, by have := hx.1.1; omega, hx.2⟩)
theorem so2 (h12 : ¬ E1 = E2) (h : LR (ZK k val Wk) oa τ v w ∨ LX (XK (kx2 E1 E2 k) Wk) E1 1 oa z0 τ v w ∨ LX (XK (kx2 E1 E2 k) Wk) E2 2 oa z0 τ v w) : SO k val (W3 k Wk) oa τ v w := by
  rcases h with h | h | h
  · exact so_ok h
  · exact so_X h (by decide) (fun w1 hx => by
      have e : k = 1 := hx.1.elim (fun z => z.1) (fun z => absurd z.2 h12)
      exact ⟨e, by omega, hx.2⟩)
  · exact so_X h (by decide) (fun w1 hx => by
      have e : k = 2 := hx.1.elim (fun z => absurd z.2.symm h12) (fun z => z.1)
      exact ⟨e, by omega, hx.2⟩)
theorem so3 (h12 : ¬ E1 = E2) (h13 : ¬ E1 = E3) (h23 : ¬ E2 = E3) (h : LR (ZK k val Wk) oa τ v w ∨ LX (XK (kx3 E1 E2 E3 k) Wk) E1 1 oa z0 τ v w ∨ LX (XK (kx3 E1 E2 E3 k) Wk) E2 2 oa z0 τ v w ∨ LX (XK (kx3 E1 E2 E3 k) Wk) E3 3 oa z0 τ v w) : SO k val (W3 k Wk) oa τ v w := by
  rcases h with h | h | h | h
  · exact so_ok h
  · exact so_X h (by decide) (fun w1 hx => by
      have e : k = 1 := by
        rcases hx.1 with z | z | z
        · exact z.1
        · exact absurd z.2 h12
        · exact absurd z.2 h13
      exact ⟨e, by omega, hx.2⟩)
  · exact so_X h (by decide) (fun w1 hx => by
      have e : k = 2 := by
        rcases hx.1 with z | z | z
        · exact absurd z.2.symm h12
        · exact z.1
        · exact absurd z.2 h23
      exact ⟨e, by omega, hx.2⟩)
  · exact so_X h (by decide) (fun w1 hx => by
      have e : k = 3 := by
        rcases hx.1 with z | z | z
        · exact absurd z.2.symm h13
        · exact absurd z.2.symm h23
        · exact z.1
      exact ⟨e, by omega, hx.2⟩)
end SOK
/-! the codes of the actions, as the law's statics and the reference tell them -/
def kA (a e1 e2 e3 : Int) : Int := if a < 0 then cd3 a e1 e2 e3 else 0
theorem kA_0 {a e1 e2 e3 : Int} (h : 0 ≤ a) : kA a e1 e2 e3 = 0 := if_neg (by omega)
theorem kA_2 {e1 e2 e3 : Int} : kA (-2) e1 e2 e3 = e1 := rfl
theorem kA_3 {e1 e2 e3 : Int} : kA (-3) e1 e2 e3 = e2 := rfl
theorem kA_4 {e1 e2 e3 : Int} : kA (-4) e1 e2 e3 = e3 := rfl
section KAX
variable {a : Int} {E : String}
theorem kx_123 (h : xEx a E) : kx3 nIO nIA nIS (kA a 1 2 3) E ∧ ¬ kA a 1 2 3 = 0 := by
  rcases h with ⟨rfl, h⟩ | ⟨rfl, h⟩ | ⟨rfl, h⟩
  · exact ⟨Or.inl ⟨rfl, h⟩, by rw [kA_2]; decide⟩
  · exact ⟨Or.inr (Or.inl ⟨rfl, h⟩), by rw [kA_3]; decide⟩
  · exact ⟨Or.inr (Or.inr ⟨rfl, h⟩), by rw [kA_4]; decide⟩
theorem kx_012 (ha : ¬ a = -2) (h : xEx a E) : kx2 nIA nIS (kA a 0 1 2) E ∧ ¬ kA a 0 1 2 = 0 := by
  rcases h with ⟨rfl, h⟩ | ⟨rfl, h⟩ | ⟨rfl, h⟩
  · exact absurd rfl ha
  · exact ⟨Or.inl ⟨rfl, h⟩, by rw [kA_3]; decide⟩
  · exact ⟨Or.inr ⟨rfl, h⟩, by rw [kA_4]; decide⟩
theorem kx_120 (ha : ¬ a = -4) (h : xEx a E) : kx2 nIO nIA (kA a 1 2 0) E ∧ ¬ kA a 1 2 0 = 0 := by
  rcases h with ⟨rfl, h⟩ | ⟨rfl, h⟩ | ⟨rfl, h⟩
  · exact ⟨Or.inl ⟨rfl, h⟩, by rw [kA_2]; decide⟩
  · exact ⟨Or.inr ⟨rfl, h⟩, by rw [kA_3]; decide⟩
  · exact absurd rfl ha
theorem kx_100 (ha : ¬ a = -3) (hb : ¬ a = -4) (h : xEx a E) : kx1 nIO (kA a 1 0 0) E ∧ ¬ kA a 1 0 0 = 0 := by
  rcases h with ⟨rfl, h⟩ | ⟨rfl, h⟩ | ⟨rfl, h⟩
  · exact ⟨⟨rfl, h⟩, by rw [kA_2]; decide⟩
  · exact absurd rfl ha
  · exact absurd rfl hb
theorem kx_102 (ha : ¬ a = -3) (h : xEx a E) : kx2 nIO nIS (kA a 1 0 2) E ∧ ¬ kA a 1 0 2 = 0 := by
  rcases h with ⟨rfl, h⟩ | ⟨rfl, h⟩ | ⟨rfl, h⟩
  · exact ⟨Or.inl ⟨rfl, h⟩, by rw [kA_2]; decide⟩
  · exact absurd rfl ha
  · exact ⟨Or.inr ⟨rfl, h⟩, by rw [kA_4]; decide⟩
theorem kx_010 (ha : ¬ a = -2) (hb : ¬ a = -4) (h : xEx a E) : kx1 nIA (kA a 0 1 0) E ∧ ¬ kA a 0 1 0 = 0 := by
  rcases h with ⟨rfl, h⟩ | ⟨rfl, h⟩ | ⟨rfl, h⟩
  · exact absurd rfl ha
  · exact ⟨⟨rfl, h⟩, by rw [kA_3]; decide⟩
  · exact absurd rfl hb
end KAX
theorem nx_reign {R : Nat → Nat → Int} (hI : SI R) (y c : Int) : ¬ (aReign R y c).1 = -2 := by
  have h := hI.r
  unfold aReign
  split
  · show ¬ (-3 : Int) = -2; decide
  · split
    · show ¬ (-4 : Int) = -2; decide
    · show ¬ R 1 0 = -2; omega
theorem nx_die {R : Nat → Nat → Int} (hI : SI R) (q a b : Int) : ¬ (aDie R q a b).1 = -2 := by
  have h := hI.d
  unfold aDie
  split
  · show ¬ (-3 : Int) = -2; decide
  · split
    · show ¬ (-4 : Int) = -2; decide
    · show ¬ R 4 0 = -2; omega
theorem nx_show {R : Nat → Nat → Int} (hI : SI R) (t x : Int) : ¬ (aShow R t x).1 = -4 := by
  have hB := hI.hB
  unfold aShow
  split
  · show ¬ (-2 : Int) = -4; decide
  · split
    · show ¬ (-3 : Int) = -4; decide
    · show ¬ R 15 t.toNat = -4
      have := hB 15 t.toNat
      omega
theorem nx_hang {R : Nat → Nat → Int} (t q : Int) : ¬ (aHang R t q).1 = -3 ∧ ¬ (aHang R t q).1 = -4 := by
  unfold aHang
  split
  · exact ⟨by show ¬ (-2 : Int) = -3; decide, by show ¬ (-2 : Int) = -4; decide⟩
  · have h2 := cnt_le (fun s => decide (updZ (R 16) t.toNat q s = q)) (R 10 0).toNat
    exact ⟨by show ¬ cnt _ _ = -3; omega, by show ¬ cnt _ _ = -4; omega⟩
theorem nx_cut {R : Nat → Nat → Int} (hI : SI R) (t : Int) : ¬ (aCut R t).1 = -3 := by
  have hB := hI.hB
  unfold aCut
  split
  · show ¬ (-2 : Int) = -3; decide
  · split
    · show ¬ (-4 : Int) = -3; decide
    · show ¬ R 16 t.toNat = -3
      have := hB 16 t.toNat
      omega
theorem nx_take {R : Nat → Nat → Int} (t : Int) : ¬ (aTake R t).1 = -3 := by
  unfold aTake
  split
  · show ¬ (-2 : Int) = -3; decide
  · split
    · show ¬ (-4 : Int) = -3; decide
    · show ¬ ((sOf R t : Nat) : Int) = -3; omega
theorem nx_set {R : Nat → Nat → Int} (hI : SI R) (a v : Int) : ¬ (aSet R a v).1 = -2 ∧ ¬ (aSet R a v).1 = -4 := by
  have hB := hI.hB
  unfold aSet
  split
  · exact ⟨by show ¬ (-3 : Int) = -2; decide, by show ¬ (-3 : Int) = -4; decide⟩
  · have := hB 20 a.toNat
    exact ⟨by show ¬ R 20 a.toNat = -2; omega, by show ¬ R 20 a.toNat = -4; omega⟩
theorem nx_sort {R : Nat → Nat → Int} (h : Int) : ¬ (aSrt R h).1 = -3 ∧ ¬ (aSrt R h).1 = -4 := by
  unfold aSrt
  split
  · exact ⟨by show ¬ (-2 : Int) = -3; decide, by show ¬ (-2 : Int) = -4; decide⟩
  · have h4 : 0 ≤ oN R h.toNat (R 18 h.toNat).toNat ∧ oN R h.toNat (R 18 h.toNat).toNat ≤ ((R 18 h.toNat).toNat : Nat) := cnt_le _ _
    exact ⟨by show ¬ oN R h.toNat (R 18 h.toNat).toNat = -3; omega, by show ¬ oN R h.toNat (R 18 h.toNat).toNat = -4; omega⟩
