/-! what a static of the law comes to: the kind of refusal k, the answer val -/
theorem qMet.mono {l : Launch} {y : MethodName} {ws : List Cond} {rm : Room} {g : va_G} {τ : Nat → ClassId} {av : List Value} {wc : va_W} {Z Z2 : Option Value → va_W → Prop} (h : qMet l y ws rm g τ av wc Z) (hZ : ∀ v w, Z v w → Z2 v w) : qMet l y ws rm g τ av wc Z2 := by
  have h2 : MetFree l y (headSpec ws rm) (va_Pc av (yW g τ wc)) (fun _ _ _ _ _ => True) (fun a st o t => rwQ g Z (inW wc) a st o t ∧ ∃ L, FrameEnd st o t L 1 6 ∧ ∀ q ∈ L, inW wc q.base) := h
  show MetFree l y (headSpec ws rm) (va_Pc av (yW g τ wc)) (fun _ _ _ _ _ => True) (fun a st o t => rwQ g Z2 (inW wc) a st o t ∧ ∃ L, FrameEnd st o t L 1 6 ∧ ∀ q ∈ L, inW wc q.base)
  refine h2.mono (fun _ _ z => z) (fun _ _ _ _ _ z => z) (fun a s o t _ hq => ?_)
  obtain ⟨⟨v, w1, a1, a2, a3, a4⟩, hL⟩ := hq
  exact ⟨⟨v, w1, hZ v w1 a1, a2, a3, a4⟩, hL⟩
def SO (k val : Int) (Wk : va_W → Prop) (oa : Nat) (τ : Nat → ClassId) (v : Option Value) (w : va_W) : Prop := ∃ (z : Int64) (w1 : va_W), v = some (.int (iI k)) ∧ (k = 0 → z = (iI val).toInt64) ∧ Wk w1 ∧ w = [outC oa z τ] ++ w1
section SUM
variable {Z : Option Value → va_W → Prop} {Zx : String → va_W → Prop} {k val : Int} {Wk : va_W → Prop} {oa : Nat} {z0 : Int64} {τ : Nat → ClassId} {v : Option Value} {w : va_W} {E : String} {k1 : Int}
theorem so_R (h : LR Z oa τ v w) (hZ : ∀ x w1, Z (some (.int x)) w1 → k = 0 ∧ x = iI val ∧ Wk w1) : SO k val Wk oa τ v w := by
  obtain ⟨x, w1, a, b, c⟩ := h
  obtain ⟨h1, h2, h3⟩ := hZ x w1 a
  exact ⟨x.toInt64, w1, by rw [b, h1], fun _ => by rw [h2], h3, c⟩
theorem so_X (h : LX Zx E k1 oa z0 τ v w) (hk : ¬ k1 = 0) (hX : ∀ w1, Zx E w1 → k = k1 ∧ Wk w1) : SO k val Wk oa τ v w := by
  obtain ⟨w1, a, b, c⟩ := h
  obtain ⟨h1, h2⟩ := hX w1 a
  exact ⟨z0, w1, by rw [b, h1], fun z => absurd (h1.symm.trans z) hk, h2, c⟩
end SUM
