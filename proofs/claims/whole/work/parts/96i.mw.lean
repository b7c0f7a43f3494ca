/-! the reference, in one piece -/
def MWl (τ : Nat → ClassId) (ma : Nat → Nat) (M : Nat → Int) (Q : Nat → Nat → Int) (T D : Nat → Int) (B K : Nat → Nat → Nat → Int) (V S P : Nat → Int) : va_W := [moO ma M, arC (ma 1) (τ 0) 291 (flR Q), arC (ma 2) (τ 0) 291 T, arC (ma 3) (τ 0) 291 D, arC (ma 4) (τ 0) 4074 (bkF B), arC (ma 6) (τ 0) 582 (bkF K), arC (ma 7) (τ 1) 2 V, arC (ma 8) (τ 0) 120 S, arC (ma 17) (τ 0) 6 P]
def MI (Q : Nat → Nat → Int) (n : Int) (B : Nat → Nat → Nat → Int) (V : Nat → Int) (K : Nat → Nat → Nat → Int) (t : Int) (S : Nat → Int) : Prop := SI Q ∧ (0 ≤ n ∧ n ≤ 14) ∧ (∀ j : Nat, (j : Int) < n → SI (B j)) ∧ SB S ∧ (0 ≤ t ∧ t ≤ 120) ∧ (∀ j, V j = 0 ∨ V j = 1) ∧ (∀ j, V j = 1 → SI (K j))
def MW (τ : Nat → ClassId) (m : Nat) (Q : Nat → Nat → Int) (n : Int) (B : Nat → Nat → Nat → Int) (V : Nat → Int) (K : Nat → Nat → Nat → Int) (t : Int) (S : Nat → Int) (k : Int) (w : va_W) : Prop := ∃ (ma : Nat → Nat) (M T D P : Nat → Int), MI Q n B V K t S ∧ (ma 0 = m ∧ M 0 = k ∧ M 5 = n ∧ M 9 = t) ∧ w = MWl τ ma M Q T D B K V S P
def MZ (w0 : va_W) (k val : Int) (P0 P1 : va_W → Prop) (v : Option Value) (w : va_W) : Prop := (∃ r : Int, v = some (.int (iI r)) ∧ (k = 0 → r = val)) ∧ Wn w0 k P0 P1 w
section MWS
variable {τ : Nat → ClassId} {m : Nat} {ma : Nat → Nat} {M T D P : Nat → Int} {Q : Nat → Nat → Int} {n : Int} {B K : Nat → Nat → Nat → Int} {V : Nat → Int} {t : Int} {S : Nat → Int} {k : Int}
theorem MW_of (h : MI Q n B V K t S) (h0 : ma 0 = m) (h1 : M 0 = k) (h5 : M 5 = n) (h9 : M 9 = t) : MW τ m Q n B V K t S k (MWl τ ma M Q T D B K V S P) := ⟨ma, M, T, D, P, h, ⟨h0, h1, h5, h9⟩, rfl⟩
theorem MI.act {Q2 : Nat → Nat → Int} (h : MI Q n B V K t S) (h2 : SI Q2) : MI Q2 (mN n) (rmB n B Q).2 V K t S ∧ (rmB n B Q).1 = mN n := by
  obtain ⟨hQ, hn, hB, hr⟩ := h
  by_cases c : n = 14
  · have e1 : mN n = 14 := by
      show (if n < 14 then n + 1 else n) = 14
      rw [if_neg (by omega), c]
    have e3 : rmB n B Q = (14, upB (drB B) 13 Q) := if_pos c
    rw [e1, e3]
    refine ⟨⟨h2, by omega, fun j hj => ?_, hr⟩, rfl⟩
    by_cases c2 : j = 13
    · have p3 : upB (drB B) 13 Q j = Q := if_pos c2
      show SI (upB (drB B) 13 Q j)
      rw [p3]
      exact hQ
    · have p3 : upB (drB B) 13 Q j = drB B j := if_neg c2
      have p4 : drB B j = B (j + 1) := if_pos (by omega)
      show SI (upB (drB B) 13 Q j)
      rw [p3, p4]
      exact hB (j + 1) (by omega)
  · have e1 : mN n = n + 1 := if_pos (by omega)
    have e3 : rmB n B Q = (n + 1, upB B n.toNat Q) := if_neg c
    rw [e1, e3]
    refine ⟨⟨h2, by omega, fun j hj => ?_, hr⟩, rfl⟩
    by_cases c2 : j = n.toNat
    · have p3 : upB B n.toNat Q j = Q := if_pos c2
      show SI (upB B n.toNat Q j)
      rw [p3]
      exact hQ
    · have p3 : upB B n.toNat Q j = B j := if_neg c2
      show SI (upB B n.toNat Q j)
      rw [p3]
      exact hB j (by omega)
theorem MI.und (h : MI Q n B V K t S) (h0 : 0 < n) : MI (B (n - 1).toNat) (n - 1) B V K t S := by
  obtain ⟨hQ, hn, hB, hr⟩ := h
  exact ⟨hB _ (by omega), by omega, fun j hj => hB j (by omega), hr⟩
theorem MI.sav (h : MI Q n B V K t S) (i : Nat) : MI Q n B (updZ V i 1) (upB K i Q) t S := by
  obtain ⟨hQ, hn, hB, hS, ht, hV, hK⟩ := h
  refine ⟨hQ, hn, hB, hS, ht, fun j => ?_, fun j hj => ?_⟩
  · show (if j = i then (1 : Int) else V j) = 0 ∨ (if j = i then (1 : Int) else V j) = 1
    by_cases c : j = i
    · rw [if_pos c]; exact Or.inr rfl
    · rw [if_neg c]; exact hV j
  · by_cases c : j = i
    · have c2 : upB K i Q j = Q := if_pos c
      rw [c2]
      exact hQ
    · have c2 : upB K i Q j = K j := if_neg c
      have c3 : updZ V i 1 j = V j := if_neg c
      rw [c2]
      exact hK j (c3.symm.trans hj)
theorem MI.res (h : MI Q n B V K t S) {i : Nat} (hi : V i = 1) : MI (K i) 0 B V K t S := by
  obtain ⟨hQ, hn, hB, hr⟩ := h
  exact ⟨hr.2.2.2 i hi, by omega, fun j hj => by omega, hr⟩
theorem MI.app (h : MI Q n B V K t S) {c : Int} (hc : 0 ≤ c ∧ c ≤ 255) (ht : t < 120) : MI Q n B V K (t + 1) (updZ S t.toNat c) := by
  obtain ⟨hQ, hn, hB, hS, h1, hr⟩ := h
  refine ⟨hQ, hn, hB, fun j => ?_, by omega, hr⟩
  unfold updZ
  split
  · exact hc
  · exact hS j
theorem MI.clr (h : MI Q n B V K t S) : MI Q n B V K 0 S := by
  obtain ⟨hQ, hn, hB, hS, h1, hr⟩ := h
  exact ⟨hQ, hn, hB, hS, by omega, hr⟩
theorem MI.lod (h : MI Q n B V K t S) : MI (uAll S t).2.2.2 0 B (updZ (updZ V 0 0) 1 0) K t S := by
  obtain ⟨hQ, hn, hB, hS, h1, hV, hK⟩ := h
  have hQs : SI (uAll S t).2.2.2 := uAll_SI hS h1
  generalize (uAll S t).2.2.2 = Q2 at hQs ⊢
  refine ⟨hQs, by omega, fun j hj => by omega, hS, h1, fun j => ?_, fun j hj => ?_⟩
  · unfold updZ
    by_cases c1 : j = 1
    · rw [if_pos c1]; exact Or.inl rfl
    · by_cases c0 : j = 0
      · rw [if_neg c1, if_pos c0]; exact Or.inl rfl
      · rw [if_neg c1, if_neg c0]; exact hV j
  · unfold updZ at hj
    by_cases c1 : j = 1
    · rw [if_pos c1] at hj; omega
    · by_cases c0 : j = 0
      · rw [if_neg c1, if_pos c0] at hj; omega
      · rw [if_neg c1, if_neg c0] at hj; exact hK j hj
end MWS
theorem xE_of {a : Int} (h : aOk a) (hn : a < 0) : ∃ E, xEx a E := by
  rcases h.1 with h | h | h | h
  · exact ⟨nIO, Or.inl ⟨h, rfl⟩⟩
  · exact ⟨nIA, Or.inr (Or.inl ⟨h, rfl⟩)⟩
  · exact ⟨nIS, Or.inr (Or.inr ⟨h, rfl⟩)⟩
  · omega
theorem pe9_0 (e0 e1 e2 e3 e4 e5 e6 e7 e8 : Nat × va_E) : ([e0, e1, e2, e3, e4, e5, e6, e7, e8] : va_W).Perm ([e0] ++ [e1, e2, e3, e4, e5, e6, e7, e8]) := List.Perm.map (fun i => ([e0, e1, e2, e3, e4, e5, e6, e7, e8] : va_W).getD i e0) (show List.Perm [0, 1, 2, 3, 4, 5, 6, 7, 8] [0, 1, 2, 3, 4, 5, 6, 7, 8] by decide)
theorem pe9_01 (e0 e1 e2 e3 e4 e5 e6 e7 e8 : Nat × va_E) : ([e0, e1, e2, e3, e4, e5, e6, e7, e8] : va_W).Perm ([e0, e1] ++ [e2, e3, e4, e5, e6, e7, e8]) := List.Perm.map (fun i => ([e0, e1, e2, e3, e4, e5, e6, e7, e8] : va_W).getD i e0) (show List.Perm [0, 1, 2, 3, 4, 5, 6, 7, 8] [0, 1, 2, 3, 4, 5, 6, 7, 8] by decide)
theorem pe9_012 (e0 e1 e2 e3 e4 e5 e6 e7 e8 : Nat × va_E) : ([e0, e1, e2, e3, e4, e5, e6, e7, e8] : va_W).Perm ([e0, e1, e2] ++ [e3, e4, e5, e6, e7, e8]) := List.Perm.map (fun i => ([e0, e1, e2, e3, e4, e5, e6, e7, e8] : va_W).getD i e0) (show List.Perm [0, 1, 2, 3, 4, 5, 6, 7, 8] [0, 1, 2, 3, 4, 5, 6, 7, 8] by decide)
theorem pe9_0128 (e0 e1 e2 e3 e4 e5 e6 e7 e8 : Nat × va_E) : ([e0, e1, e2, e3, e4, e5, e6, e7, e8] : va_W).Perm ([e0, e1, e2, e8] ++ [e3, e4, e5, e6, e7]) := List.Perm.map (fun i => ([e0, e1, e2, e3, e4, e5, e6, e7, e8] : va_W).getD i e0) (show List.Perm [0, 1, 2, 3, 4, 5, 6, 7, 8] [0, 1, 2, 8, 3, 4, 5, 6, 7] by decide)
theorem pe9_014 (e0 e1 e2 e3 e4 e5 e6 e7 e8 : Nat × va_E) : ([e0, e1, e2, e3, e4, e5, e6, e7, e8] : va_W).Perm ([e0, e1, e4] ++ [e2, e3, e5, e6, e7, e8]) := List.Perm.map (fun i => ([e0, e1, e2, e3, e4, e5, e6, e7, e8] : va_W).getD i e0) (show List.Perm [0, 1, 2, 3, 4, 5, 6, 7, 8] [0, 1, 4, 2, 3, 5, 6, 7, 8] by decide)
theorem pe9_0148 (e0 e1 e2 e3 e4 e5 e6 e7 e8 : Nat × va_E) : ([e0, e1, e2, e3, e4, e5, e6, e7, e8] : va_W).Perm ([e0, e1, e4, e8] ++ [e2, e3, e5, e6, e7]) := List.Perm.map (fun i => ([e0, e1, e2, e3, e4, e5, e6, e7, e8] : va_W).getD i e0) (show List.Perm [0, 1, 2, 3, 4, 5, 6, 7, 8] [0, 1, 4, 8, 2, 3, 5, 6, 7] by decide)
theorem pe9_0156 (e0 e1 e2 e3 e4 e5 e6 e7 e8 : Nat × va_E) : ([e0, e1, e2, e3, e4, e5, e6, e7, e8] : va_W).Perm ([e0, e1, e5, e6] ++ [e2, e3, e4, e7, e8]) := List.Perm.map (fun i => ([e0, e1, e2, e3, e4, e5, e6, e7, e8] : va_W).getD i e0) (show List.Perm [0, 1, 2, 3, 4, 5, 6, 7, 8] [0, 1, 5, 6, 2, 3, 4, 7, 8] by decide)
theorem pe9_01736 (e0 e1 e2 e3 e4 e5 e6 e7 e8 : Nat × va_E) : ([e0, e1, e2, e3, e4, e5, e6, e7, e8] : va_W).Perm ([e0, e1, e7, e3, e6] ++ [e2, e4, e5, e8]) := List.Perm.map (fun i => ([e0, e1, e2, e3, e4, e5, e6, e7, e8] : va_W).getD i e0) (show List.Perm [0, 1, 2, 3, 4, 5, 6, 7, 8] [0, 1, 7, 3, 6, 2, 4, 5, 8] by decide)
theorem pe9_07 (e0 e1 e2 e3 e4 e5 e6 e7 e8 : Nat × va_E) : ([e0, e1, e2, e3, e4, e5, e6, e7, e8] : va_W).Perm ([e0, e7] ++ [e1, e2, e3, e4, e5, e6, e8]) := List.Perm.map (fun i => ([e0, e1, e2, e3, e4, e5, e6, e7, e8] : va_W).getD i e0) (show List.Perm [0, 1, 2, 3, 4, 5, 6, 7, 8] [0, 7, 1, 2, 3, 4, 5, 6, 8] by decide)
theorem pe9_073 (e0 e1 e2 e3 e4 e5 e6 e7 e8 : Nat × va_E) : ([e0, e1, e2, e3, e4, e5, e6, e7, e8] : va_W).Perm ([e0, e7, e3] ++ [e1, e2, e4, e5, e6, e8]) := List.Perm.map (fun i => ([e0, e1, e2, e3, e4, e5, e6, e7, e8] : va_W).getD i e0) (show List.Perm [0, 1, 2, 3, 4, 5, 6, 7, 8] [0, 7, 3, 1, 2, 4, 5, 6, 8] by decide)
set_option maxRecDepth 100000 in
theorem h_append (l : Launch) (g : va_G) (τ : Nat → ClassId) {m : Nat} {Q : Nat → Nat → Int} {n : Int} {B : Nat → Nat → Nat → Int} {V : Nat → Int} {K : Nat → Nat → Nat → Int} {t : Int} {S : Nat → Int} {k0 : Int} {w : va_W} (hw : MW τ m Q n B V K t S k0 w) (a1 : Int) (ra1 : -2147483648 ≤ a1 ∧ a1 < 2147483648) : Met l yX10_append wsX10_append { frames := 1, cells := 0, slots := 0, locals := 25 } (va_Pc [Value.ref m, Value.int (iI a1)] (rwW g τ w)) (rwQ g (MZ w (kAp a1 t) (t + 1) (MW τ m Q n B V K (t + 1) (updZ S t.toNat a1) 0) (MW τ m Q n B V K t S (kAp a1 t))) (inW w)) 0 0 (inW w) := by
  obtain ⟨ma, M, T, D, P, hI, ⟨rfl, h0, rfl, rfl⟩, rfl⟩ := hw
  refine rwfr (c_X10_append l g τ ma M S hI.2.2.2.2.1 a1 ra1) (pe9_07 _ _ _ _ _ _ _ _ _) (fun v w1 hz => ?_) (fun v w1 hz => ?_)
  · obtain ⟨M2, -, ⟨-, -, -, -, rfl⟩ | ⟨-, -, -, -, -, rfl⟩ | ⟨-, -, -, -, -, rfl⟩⟩ := hz <;> rfl
  · obtain ⟨M2, h5, ⟨c, hv, h1, h9, rfl⟩ | ⟨c, c2, hv, h1, h9, rfl⟩ | ⟨c, c2, hv, h1, h9, rfl⟩⟩ := hz
    · have hk1 : kAp a1 (M 9) = 1 := if_neg c
      have hne : ¬ kAp a1 (M 9) = 0 := by rw [hk1]; decide
      exact ⟨MWl τ ma M2 Q T D B K V S P, (pe9_07 _ _ _ _ _ _ _ _ _).symm, ⟨0, hv, fun z => absurd z hne⟩, rfl, fun z => absurd z hne, fun _ => MW_of hI rfl (h1.trans hk1.symm) h5 h9⟩
    · have hk1 : kAp a1 (M 9) = 2 := (if_pos c).trans (if_pos c2)
      have hne : ¬ kAp a1 (M 9) = 0 := by rw [hk1]; decide
      exact ⟨MWl τ ma M2 Q T D B K V S P, (pe9_07 _ _ _ _ _ _ _ _ _).symm, ⟨0, hv, fun z => absurd z hne⟩, rfl, fun z => absurd z hne, fun _ => MW_of hI rfl (h1.trans hk1.symm) h5 h9⟩
    · have hk0 : kAp a1 (M 9) = 0 := (if_pos c).trans (if_neg (by omega))
      exact ⟨MWl τ ma M2 Q T D B K V (updZ S (M 9).toNat a1) P, (pe9_07 _ _ _ _ _ _ _ _ _).symm, ⟨_, hv, fun _ => rfl⟩, rfl, fun _ => MW_of (hI.app c c2) rfl h1 h5 h9, fun z => absurd hk0 z⟩

set_option maxRecDepth 100000 in
theorem h_load (l : Launch) (g : va_G) (τ : Nat → ClassId) {m : Nat} {Q : Nat → Nat → Int} {n : Int} {B : Nat → Nat → Nat → Int} {V : Nat → Int} {K : Nat → Nat → Nat → Int} {t : Int} {S : Nat → Int} {k0 : Int} {w : va_W} (hw : MW τ m Q n B V K t S k0 w)  : Met l yX10_load wsX10_load { frames := 6, cells := 0, slots := 0, locals := 140 } (va_Pc [Value.ref m] (rwW g τ w)) (rwQ g (MZ w (kLd S t) (uAll S t).2.2.1 (MW τ m (uAll S t).2.2.2 0 B (updZ (updZ V 0 0) 1 0) K t S 0) (MW τ m Q n B V K t S (kLd S t))) (inW w)) 0 0 (inW w) := by
  obtain ⟨ma, M, T, D, P, hI, ⟨rfl, h0, rfl, rfl⟩, rfl⟩ := hw
  have hm := hI.lod
  have hc := c_X10_load l g τ ma M Q hI.1 S hI.2.2.2.1 D V hI.2.2.2.2.1
  refine rwfr hc (pe9_01736 _ _ _ _ _ _ _ _ _) (fun v w1 hz => ?_) (fun v w1 hz => ?_)
  · obtain ⟨M2, D2, -, ⟨-, -, -, -, rfl⟩ | ⟨-, -, -, -, rfl⟩⟩ := hz <;> rfl
  · obtain ⟨M2, D2, h9, ⟨c, hv, h1, h5, rfl⟩ | ⟨c, hv, h1, h5, rfl⟩⟩ := hz
    · have hk1 : kLd S (M 9) = 1 := if_neg c
      have hne : ¬ kLd S (M 9) = 0 := by rw [hk1]; decide
      exact ⟨MWl τ ma M2 Q T D2 B K V S P, (pe9_01736 _ _ _ _ _ _ _ _ _).symm, ⟨0, hv, fun z => absurd z hne⟩, rfl, fun z => absurd z hne, fun _ => MW_of hI rfl (h1.trans hk1.symm) h5 h9⟩
    · have hk0 : kLd S (M 9) = 0 := if_pos c
      exact ⟨MWl τ ma M2 (uAll S (M 9)).2.2.2 T D2 B K (updZ (updZ V 0 0) 1 0) S P, (pe9_01736 _ _ _ _ _ _ _ _ _).symm, ⟨_, hv, fun _ => rfl⟩, rfl, fun _ => MW_of hm rfl h1 h5 h9, fun z => absurd hk0 z⟩

set_option maxRecDepth 100000 in
theorem h_about (l : Launch) (g : va_G) (τ : Nat → ClassId) {m : Nat} {Q : Nat → Nat → Int} {n : Int} {B : Nat → Nat → Nat → Int} {V : Nat → Int} {K : Nat → Nat → Nat → Int} {t : Int} {S : Nat → Int} {k0 : Int} {w : va_W} (hw : MW τ m Q n B V K t S k0 w) (a1 : Int) (ra1 : -2147483648 ≤ a1 ∧ a1 < 2147483648) : Met l yX10_about wsX10_about { frames := 9, cells := 0, slots := 0, locals := 215 } (va_Pc [Value.ref m, Value.int (iI a1)] (rwW g τ w)) (rwQ g (MZ w ((pAbout Q a1).1) (pAbout Q a1).2 (MW τ m Q n B V K t S 0) (MW τ m Q n B V K t S ((pAbout Q a1).1))) (inW w)) 0 0 (inW w) := by
  obtain ⟨ma, M, T, D, P, hI, ⟨rfl, h0, rfl, rfl⟩, rfl⟩ := hw
  have hc := c_X10_about l g τ ma M Q hI.1 a1 ra1
  generalize (pAbout Q a1) = pa at hc ⊢
  refine rwfr hc (pe9_01 _ _ _ _ _ _ _ _ _) (fun v w1 hz => ?_) (fun v w1 hz => ?_)
  · obtain ⟨-, M2, -, -, -, rfl⟩ := hz
    rfl
  · obtain ⟨hv, M2, h1, h2, h3, rfl⟩ := hz
    exact ⟨MWl τ ma M2 Q T D B K V S P, (pe9_01 _ _ _ _ _ _ _ _ _).symm, ⟨_, hv, fun _ => rfl⟩, rfl, fun c => MW_of hI rfl (h1.trans c) h2 h3, fun _ => MW_of hI rfl h1 h2 h3⟩

set_option maxRecDepth 100000 in
theorem h_ofReign (l : Launch) (g : va_G) (τ : Nat → ClassId) {m : Nat} {Q : Nat → Nat → Int} {n : Int} {B : Nat → Nat → Nat → Int} {V : Nat → Int} {K : Nat → Nat → Nat → Int} {t : Int} {S : Nat → Int} {k0 : Int} {w : va_W} (hw : MW τ m Q n B V K t S k0 w) (a1 : Int) (ra1 : -2147483648 ≤ a1 ∧ a1 < 2147483648) (a2 : Int) (ra2 : -2147483648 ≤ a2 ∧ a2 < 2147483648) : Met l yX10_ofReign wsX10_ofReign { frames := 2, cells := 0, slots := 0, locals := 46 } (va_Pc [Value.ref m, Value.int (iI a1), Value.int (iI a2)] (rwW g τ w)) (rwQ g (MZ w ((pReign Q a1 a2).1) (pReign Q a1 a2).2 (MW τ m Q n B V K t S 0) (MW τ m Q n B V K t S ((pReign Q a1 a2).1))) (inW w)) 0 0 (inW w) := by
  obtain ⟨ma, M, T, D, P, hI, ⟨rfl, h0, rfl, rfl⟩, rfl⟩ := hw
  have hc := c_X10_ofReign l g τ ma M Q hI.1 a1 ra1 a2 ra2
  generalize (pReign Q a1 a2) = pa at hc ⊢
  refine rwfr hc (pe9_01 _ _ _ _ _ _ _ _ _) (fun v w1 hz => ?_) (fun v w1 hz => ?_)
  · obtain ⟨-, M2, -, -, -, rfl⟩ := hz
    rfl
  · obtain ⟨hv, M2, h1, h2, h3, rfl⟩ := hz
    exact ⟨MWl τ ma M2 Q T D B K V S P, (pe9_01 _ _ _ _ _ _ _ _ _).symm, ⟨_, hv, fun _ => rfl⟩, rfl, fun c => MW_of hI rfl (h1.trans c) h2 h3, fun _ => MW_of hI rfl h1 h2 h3⟩

set_option maxRecDepth 100000 in
theorem h_ofDie (l : Launch) (g : va_G) (τ : Nat → ClassId) {m : Nat} {Q : Nat → Nat → Int} {n : Int} {B : Nat → Nat → Nat → Int} {V : Nat → Int} {K : Nat → Nat → Nat → Int} {t : Int} {S : Nat → Int} {k0 : Int} {w : va_W} (hw : MW τ m Q n B V K t S k0 w) (a1 : Int) (ra1 : -2147483648 ≤ a1 ∧ a1 < 2147483648) (a2 : Int) (ra2 : -2147483648 ≤ a2 ∧ a2 < 2147483648) : Met l yX10_ofDie wsX10_ofDie { frames := 8, cells := 0, slots := 0, locals := 190 } (va_Pc [Value.ref m, Value.int (iI a1), Value.int (iI a2)] (rwW g τ w)) (rwQ g (MZ w ((pDie Q a1 a2).1) (pDie Q a1 a2).2 (MW τ m Q n B V K t S 0) (MW τ m Q n B V K t S ((pDie Q a1 a2).1))) (inW w)) 0 0 (inW w) := by
  obtain ⟨ma, M, T, D, P, hI, ⟨rfl, h0, rfl, rfl⟩, rfl⟩ := hw
  have hc := c_X10_ofDie l g τ ma M Q hI.1 a1 ra1 a2 ra2
  generalize (pDie Q a1 a2) = pa at hc ⊢
  refine rwfr hc (pe9_01 _ _ _ _ _ _ _ _ _) (fun v w1 hz => ?_) (fun v w1 hz => ?_)
  · obtain ⟨-, M2, -, -, -, rfl⟩ := hz
    rfl
  · obtain ⟨hv, M2, h1, h2, h3, rfl⟩ := hz
    exact ⟨MWl τ ma M2 Q T D B K V S P, (pe9_01 _ _ _ _ _ _ _ _ _).symm, ⟨_, hv, fun _ => rfl⟩, rfl, fun c => MW_of hI rfl (h1.trans c) h2 h3, fun _ => MW_of hI rfl h1 h2 h3⟩

set_option maxRecDepth 100000 in
theorem h_crackYear (l : Launch) (g : va_G) (τ : Nat → ClassId) {m : Nat} {Q : Nat → Nat → Int} {n : Int} {B : Nat → Nat → Nat → Int} {V : Nat → Int} {K : Nat → Nat → Nat → Int} {t : Int} {S : Nat → Int} {k0 : Int} {w : va_W} (hw : MW τ m Q n B V K t S k0 w) (a1 : Int) (ra1 : -2147483648 ≤ a1 ∧ a1 < 2147483648) (a2 : Int) (ra2 : -2147483648 ≤ a2 ∧ a2 < 2147483648) : Met l yX10_crackYear wsX10_crackYear { frames := 2, cells := 0, slots := 0, locals := 46 } (va_Pc [Value.ref m, Value.int (iI a1), Value.int (iI a2)] (rwW g τ w)) (rwQ g (MZ w ((pCrack Q a1 a2).1) (pCrack Q a1 a2).2 (MW τ m Q n B V K t S 0) (MW τ m Q n B V K t S ((pCrack Q a1 a2).1))) (inW w)) 0 0 (inW w) := by
  obtain ⟨ma, M, T, D, P, hI, ⟨rfl, h0, rfl, rfl⟩, rfl⟩ := hw
  have hc := c_X10_crackYear l g τ ma M Q hI.1 a1 ra1 a2 ra2
  generalize (pCrack Q a1 a2) = pa at hc ⊢
  refine rwfr hc (pe9_01 _ _ _ _ _ _ _ _ _) (fun v w1 hz => ?_) (fun v w1 hz => ?_)
  · obtain ⟨-, M2, -, -, -, rfl⟩ := hz
    rfl
  · obtain ⟨hv, M2, h1, h2, h3, rfl⟩ := hz
    exact ⟨MWl τ ma M2 Q T D B K V S P, (pe9_01 _ _ _ _ _ _ _ _ _).symm, ⟨_, hv, fun _ => rfl⟩, rfl, fun c => MW_of hI rfl (h1.trans c) h2 h3, fun _ => MW_of hI rfl h1 h2 h3⟩

set_option maxRecDepth 100000 in
theorem h_ofSeal (l : Launch) (g : va_G) (τ : Nat → ClassId) {m : Nat} {Q : Nat → Nat → Int} {n : Int} {B : Nat → Nat → Nat → Int} {V : Nat → Int} {K : Nat → Nat → Nat → Int} {t : Int} {S : Nat → Int} {k0 : Int} {w : va_W} (hw : MW τ m Q n B V K t S k0 w) (a1 : Int) (ra1 : -2147483648 ≤ a1 ∧ a1 < 2147483648) (a2 : Int) (ra2 : -2147483648 ≤ a2 ∧ a2 < 2147483648) : Met l yX10_ofSeal wsX10_ofSeal { frames := 2, cells := 0, slots := 0, locals := 47 } (va_Pc [Value.ref m, Value.int (iI a1), Value.int (iI a2)] (rwW g τ w)) (rwQ g (MZ w ((pSeal Q a1 a2).1) (pSeal Q a1 a2).2 (MW τ m Q n B V K t S 0) (MW τ m Q n B V K t S ((pSeal Q a1 a2).1))) (inW w)) 0 0 (inW w) := by
  obtain ⟨ma, M, T, D, P, hI, ⟨rfl, h0, rfl, rfl⟩, rfl⟩ := hw
  have hc := c_X10_ofSeal l g τ ma M Q hI.1 a1 ra1 a2 ra2
  generalize (pSeal Q a1 a2) = pa at hc ⊢
  refine rwfr hc (pe9_01 _ _ _ _ _ _ _ _ _) (fun v w1 hz => ?_) (fun v w1 hz => ?_)
  · obtain ⟨-, M2, -, -, -, rfl⟩ := hz
    rfl
  · obtain ⟨hv, M2, h1, h2, h3, rfl⟩ := hz
    exact ⟨MWl τ ma M2 Q T D B K V S P, (pe9_01 _ _ _ _ _ _ _ _ _).symm, ⟨_, hv, fun _ => rfl⟩, rfl, fun c => MW_of hI rfl (h1.trans c) h2 h3, fun _ => MW_of hI rfl h1 h2 h3⟩

set_option maxRecDepth 100000 in
theorem h_dated (l : Launch) (g : va_G) (τ : Nat → ClassId) {m : Nat} {Q : Nat → Nat → Int} {n : Int} {B : Nat → Nat → Nat → Int} {V : Nat → Int} {K : Nat → Nat → Nat → Int} {t : Int} {S : Nat → Int} {k0 : Int} {w : va_W} (hw : MW τ m Q n B V K t S k0 w) (a1 : Int) (ra1 : -2147483648 ≤ a1 ∧ a1 < 2147483648) (a2 : Int) (ra2 : -2147483648 ≤ a2 ∧ a2 < 2147483648) : Met l yX10_dated wsX10_dated { frames := 7, cells := 0, slots := 0, locals := 166 } (va_Pc [Value.ref m, Value.int (iI a1), Value.int (iI a2)] (rwW g τ w)) (rwQ g (MZ w ((pDated Q a1 a2).1) (pDated Q a1 a2).2 (MW τ m Q n B V K t S 0) (MW τ m Q n B V K t S ((pDated Q a1 a2).1))) (inW w)) 0 0 (inW w) := by
  obtain ⟨ma, M, T, D, P, hI, ⟨rfl, h0, rfl, rfl⟩, rfl⟩ := hw
  have hc := c_X10_dated l g τ ma M Q hI.1 a1 ra1 a2 ra2
  generalize (pDated Q a1 a2) = pa at hc ⊢
  refine rwfr hc (pe9_01 _ _ _ _ _ _ _ _ _) (fun v w1 hz => ?_) (fun v w1 hz => ?_)
  · obtain ⟨-, M2, -, -, -, rfl⟩ := hz
    rfl
  · obtain ⟨hv, M2, h1, h2, h3, rfl⟩ := hz
    exact ⟨MWl τ ma M2 Q T D B K V S P, (pe9_01 _ _ _ _ _ _ _ _ _).symm, ⟨_, hv, fun _ => rfl⟩, rfl, fun c => MW_of hI rfl (h1.trans c) h2 h3, fun _ => MW_of hI rfl h1 h2 h3⟩

set_option maxRecDepth 100000 in
theorem h_isPossible (l : Launch) (g : va_G) (τ : Nat → ClassId) {m : Nat} {Q : Nat → Nat → Int} {n : Int} {B : Nat → Nat → Nat → Int} {V : Nat → Int} {K : Nat → Nat → Nat → Int} {t : Int} {S : Nat → Int} {k0 : Int} {w : va_W} (hw : MW τ m Q n B V K t S k0 w) (a1 : Int) (ra1 : -2147483648 ≤ a1 ∧ a1 < 2147483648) (a2 : Int) (ra2 : -2147483648 ≤ a2 ∧ a2 < 2147483648) : Met l yX10_isPossible wsX10_isPossible { frames := 3, cells := 0, slots := 0, locals := 74 } (va_Pc [Value.ref m, Value.int (iI a1), Value.int (iI a2)] (rwW g τ w)) (rwQ g (MZ w ((pPoss Q a1 a2).1) (pPoss Q a1 a2).2 (MW τ m Q n B V K t S 0) (MW τ m Q n B V K t S ((pPoss Q a1 a2).1))) (inW w)) 0 0 (inW w) := by
  obtain ⟨ma, M, T, D, P, hI, ⟨rfl, h0, rfl, rfl⟩, rfl⟩ := hw
  have hc := c_X10_isPossible l g τ ma M Q hI.1 a1 ra1 a2 ra2
  generalize (pPoss Q a1 a2) = pa at hc ⊢
  refine rwfr hc (pe9_01 _ _ _ _ _ _ _ _ _) (fun v w1 hz => ?_) (fun v w1 hz => ?_)
  · obtain ⟨-, M2, -, -, -, rfl⟩ := hz
    rfl
  · obtain ⟨hv, M2, h1, h2, h3, rfl⟩ := hz
    exact ⟨MWl τ ma M2 Q T D B K V S P, (pe9_01 _ _ _ _ _ _ _ _ _).symm, ⟨_, hv, fun _ => rfl⟩, rfl, fun c => MW_of hI rfl (h1.trans c) h2 h3, fun _ => MW_of hI rfl h1 h2 h3⟩

set_option maxRecDepth 100000 in
theorem h_charter (l : Launch) (g : va_G) (τ : Nat → ClassId) {m : Nat} {Q : Nat → Nat → Int} {n : Int} {B : Nat → Nat → Nat → Int} {V : Nat → Int} {K : Nat → Nat → Nat → Int} {t : Int} {S : Nat → Int} {k0 : Int} {w : va_W} (hw : MW τ m Q n B V K t S k0 w) (a1 : Int) (ra1 : -2147483648 ≤ a1 ∧ a1 < 2147483648) (a2 : Int) (ra2 : -2147483648 ≤ a2 ∧ a2 < 2147483648) : Met l yX10_charter wsX10_charter { frames := 8, cells := 0, slots := 0, locals := 189 } (va_Pc [Value.ref m, Value.int (iI a1), Value.int (iI a2)] (rwW g τ w)) (rwQ g (MZ w ((pChart Q a1 a2).1) (pChart Q a1 a2).2 (MW τ m Q n B V K t S 0) (MW τ m Q n B V K t S ((pChart Q a1 a2).1))) (inW w)) 0 0 (inW w) := by
  obtain ⟨ma, M, T, D, P, hI, ⟨rfl, h0, rfl, rfl⟩, rfl⟩ := hw
  have hc := c_X10_charter l g τ ma M Q hI.1 a1 ra1 a2 ra2
  generalize (pChart Q a1 a2) = pa at hc ⊢
  refine rwfr hc (pe9_01 _ _ _ _ _ _ _ _ _) (fun v w1 hz => ?_) (fun v w1 hz => ?_)
  · obtain ⟨-, M2, -, -, -, rfl⟩ := hz
    rfl
  · obtain ⟨hv, M2, h1, h2, h3, rfl⟩ := hz
    exact ⟨MWl τ ma M2 Q T D B K V S P, (pe9_01 _ _ _ _ _ _ _ _ _).symm, ⟨_, hv, fun _ => rfl⟩, rfl, fun c => MW_of hI rfl (h1.trans c) h2 h3, fun _ => MW_of hI rfl h1 h2 h3⟩

set_option maxRecDepth 100000 in
theorem h_onShelf (l : Launch) (g : va_G) (τ : Nat → ClassId) {m : Nat} {Q : Nat → Nat → Int} {n : Int} {B : Nat → Nat → Nat → Int} {V : Nat → Int} {K : Nat → Nat → Nat → Int} {t : Int} {S : Nat → Int} {k0 : Int} {w : va_W} (hw : MW τ m Q n B V K t S k0 w) (a1 : Int) (ra1 : -2147483648 ≤ a1 ∧ a1 < 2147483648) (a2 : Int) (ra2 : -2147483648 ≤ a2 ∧ a2 < 2147483648) : Met l yX10_onShelf wsX10_onShelf { frames := 2, cells := 0, slots := 0, locals := 45 } (va_Pc [Value.ref m, Value.int (iI a1), Value.int (iI a2)] (rwW g τ w)) (rwQ g (MZ w ((pShelf Q a1 a2).1) (pShelf Q a1 a2).2 (MW τ m Q n B V K t S 0) (MW τ m Q n B V K t S ((pShelf Q a1 a2).1))) (inW w)) 0 0 (inW w) := by
  obtain ⟨ma, M, T, D, P, hI, ⟨rfl, h0, rfl, rfl⟩, rfl⟩ := hw
  have hc := c_X10_onShelf l g τ ma M Q hI.1 a1 ra1 a2 ra2
  generalize (pShelf Q a1 a2) = pa at hc ⊢
  refine rwfr hc (pe9_01 _ _ _ _ _ _ _ _ _) (fun v w1 hz => ?_) (fun v w1 hz => ?_)
  · obtain ⟨-, M2, -, -, -, rfl⟩ := hz
    rfl
  · obtain ⟨hv, M2, h1, h2, h3, rfl⟩ := hz
    exact ⟨MWl τ ma M2 Q T D B K V S P, (pe9_01 _ _ _ _ _ _ _ _ _).symm, ⟨_, hv, fun _ => rfl⟩, rfl, fun c => MW_of hI rfl (h1.trans c) h2 h3, fun _ => MW_of hI rfl h1 h2 h3⟩

set_option maxRecDepth 100000 in
theorem h_reign (l : Launch) (g : va_G) (τ : Nat → ClassId) {m : Nat} {Q : Nat → Nat → Int} {n : Int} {B : Nat → Nat → Nat → Int} {V : Nat → Int} {K : Nat → Nat → Nat → Int} {t : Int} {S : Nat → Int} {k0 : Int} {w : va_W} (hw : MW τ m Q n B V K t S k0 w) (a1 : Int) (ra1 : -2147483648 ≤ a1 ∧ a1 < 2147483648) (a2 : Int) (ra2 : -2147483648 ≤ a2 ∧ a2 < 2147483648) : Met l yX10_reign wsX10_reign { frames := 2, cells := 0, slots := 0, locals := 45 } (va_Pc [Value.ref m, Value.int (iI a1), Value.int (iI a2)] (rwW g τ w)) (rwQ g (MZ w (kA (aReign Q a1 a2).1 0 1 2) (aReign Q a1 a2).1 (MW τ m (aReign Q a1 a2).2 (mN n) (rmB n B Q).2 V K t S 0) (MW τ m Q n B V K t S (kA (aReign Q a1 a2).1 0 1 2))) (inW w)) 0 0 (inW w) := by
  obtain ⟨ma, M, T, D, P, hI, ⟨rfl, h0, rfl, rfl⟩, rfl⟩ := hw
  have hs := SI_aReign hI.1 a1 a2
  have hr := aReign_r hI.1 a1 a2
  have hk : (aReign Q a1 a2).1 < 0 → ¬ kA (aReign Q a1 a2).1 0 1 2 = 0 := fun c => by
    obtain ⟨E, hE⟩ := xE_of hr c
    exact (kx_012 (nx_reign hI.1 a1 a2) hE).2
  have hc := c_X10_reign l g τ ma M Q hI.1 a1 ra1 a2 ra2 B hI.2.1
  generalize (aReign Q a1 a2) = pa at hc hs hk ⊢
  obtain ⟨hm, hn⟩ := hI.act hs
  refine rwfr hc (pe9_014 _ _ _ _ _ _ _ _ _) (fun v w1 hz => ?_) (fun v w1 hz => ?_)
  · obtain ⟨M2, -, ⟨-, -, -, -, rfl⟩ | ⟨-, -, -, -, rfl⟩⟩ := hz <;> rfl
  · obtain ⟨M2, h9, ⟨c, hv, h1, h5, rfl⟩ | ⟨c, hv, h1, h5, rfl⟩⟩ := hz
    · have hk1 := hk c
      exact ⟨MWl τ ma M2 Q T D B K V S P, (pe9_014 _ _ _ _ _ _ _ _ _).symm, ⟨0, hv, fun z => absurd z hk1⟩, rfl, fun z => absurd z hk1, fun _ => MW_of hI rfl (h1.trans (if_pos c).symm) h5 h9⟩
    · have hk0 := kA_0 (e1 := 0) (e2 := 1) (e3 := 2) c
      exact ⟨MWl τ ma M2 (pa.2) T D (rmB (M 5) B Q).2 K V S P, (pe9_014 _ _ _ _ _ _ _ _ _).symm, ⟨_, hv, fun _ => rfl⟩, rfl, fun _ => MW_of hm rfl h1 (h5.trans hn) h9, fun z => absurd hk0 z⟩

set_option maxRecDepth 100000 in
theorem h_die (l : Launch) (g : va_G) (τ : Nat → ClassId) {m : Nat} {Q : Nat → Nat → Int} {n : Int} {B : Nat → Nat → Nat → Int} {V : Nat → Int} {K : Nat → Nat → Nat → Int} {t : Int} {S : Nat → Int} {k0 : Int} {w : va_W} (hw : MW τ m Q n B V K t S k0 w) (a1 : Int) (ra1 : -2147483648 ≤ a1 ∧ a1 < 2147483648) (a2 : Int) (ra2 : -2147483648 ≤ a2 ∧ a2 < 2147483648) (a3 : Int) (ra3 : -2147483648 ≤ a3 ∧ a3 < 2147483648) : Met l yX10_die wsX10_die { frames := 3, cells := 0, slots := 0, locals := 66 } (va_Pc [Value.ref m, Value.int (iI a1), Value.int (iI a2), Value.int (iI a3)] (rwW g τ w)) (rwQ g (MZ w (kA (aDie Q a1 a2 a3).1 0 1 2) (aDie Q a1 a2 a3).1 (MW τ m (aDie Q a1 a2 a3).2 (mN n) (rmB n B Q).2 V K t S 0) (MW τ m Q n B V K t S (kA (aDie Q a1 a2 a3).1 0 1 2))) (inW w)) 0 0 (inW w) := by
  obtain ⟨ma, M, T, D, P, hI, ⟨rfl, h0, rfl, rfl⟩, rfl⟩ := hw
  have hs := SI_aDie hI.1 a1 a2 a3
  have hr := aDie_r hI.1 a1 a2 a3
  have hk : (aDie Q a1 a2 a3).1 < 0 → ¬ kA (aDie Q a1 a2 a3).1 0 1 2 = 0 := fun c => by
    obtain ⟨E, hE⟩ := xE_of hr c
    exact (kx_012 (nx_die hI.1 a1 a2 a3) hE).2
  have hc := c_X10_die l g τ ma M Q hI.1 a1 ra1 a2 ra2 a3 ra3 B hI.2.1
  generalize (aDie Q a1 a2 a3) = pa at hc hs hk ⊢
  obtain ⟨hm, hn⟩ := hI.act hs
  refine rwfr hc (pe9_014 _ _ _ _ _ _ _ _ _) (fun v w1 hz => ?_) (fun v w1 hz => ?_)
  · obtain ⟨M2, -, ⟨-, -, -, -, rfl⟩ | ⟨-, -, -, -, rfl⟩⟩ := hz <;> rfl
  · obtain ⟨M2, h9, ⟨c, hv, h1, h5, rfl⟩ | ⟨c, hv, h1, h5, rfl⟩⟩ := hz
    · have hk1 := hk c
      exact ⟨MWl τ ma M2 Q T D B K V S P, (pe9_014 _ _ _ _ _ _ _ _ _).symm, ⟨0, hv, fun z => absurd z hk1⟩, rfl, fun z => absurd z hk1, fun _ => MW_of hI rfl (h1.trans (if_pos c).symm) h5 h9⟩
    · have hk0 := kA_0 (e1 := 0) (e2 := 1) (e3 := 2) c
      exact ⟨MWl τ ma M2 (pa.2) T D (rmB (M 5) B Q).2 K V S P, (pe9_014 _ _ _ _ _ _ _ _ _).symm, ⟨_, hv, fun _ => rfl⟩, rfl, fun _ => MW_of hm rfl h1 (h5.trans hn) h9, fun z => absurd hk0 z⟩

set_option maxRecDepth 100000 in
theorem h_crack (l : Launch) (g : va_G) (τ : Nat → ClassId) {m : Nat} {Q : Nat → Nat → Int} {n : Int} {B : Nat → Nat → Nat → Int} {V : Nat → Int} {K : Nat → Nat → Nat → Int} {t : Int} {S : Nat → Int} {k0 : Int} {w : va_W} (hw : MW τ m Q n B V K t S k0 w) (a1 : Int) (ra1 : -2147483648 ≤ a1 ∧ a1 < 2147483648) (a2 : Int) (ra2 : -2147483648 ≤ a2 ∧ a2 < 2147483648) : Met l yX10_crack wsX10_crack { frames := 2, cells := 0, slots := 0, locals := 46 } (va_Pc [Value.ref m, Value.int (iI a1), Value.int (iI a2)] (rwW g τ w)) (rwQ g (MZ w (kA (aCrack Q a1 a2).1 1 2 3) (aCrack Q a1 a2).1 (MW τ m (aCrack Q a1 a2).2 (mN n) (rmB n B Q).2 V K t S 0) (MW τ m Q n B V K t S (kA (aCrack Q a1 a2).1 1 2 3))) (inW w)) 0 0 (inW w) := by
  obtain ⟨ma, M, T, D, P, hI, ⟨rfl, h0, rfl, rfl⟩, rfl⟩ := hw
  have hs := SI_aCrack hI.1 a1 a2
  have hr := aCrack_r hI.1 a1 a2
  have hk : (aCrack Q a1 a2).1 < 0 → ¬ kA (aCrack Q a1 a2).1 1 2 3 = 0 := fun c => by
    obtain ⟨E, hE⟩ := xE_of hr c
    exact (kx_123 hE).2
  have hc := c_X10_crack l g τ ma M Q hI.1 a1 ra1 a2 ra2 B hI.2.1
  generalize (aCrack Q a1 a2) = pa at hc hs hk ⊢
  obtain ⟨hm, hn⟩ := hI.act hs
  refine rwfr hc (pe9_014 _ _ _ _ _ _ _ _ _) (fun v w1 hz => ?_) (fun v w1 hz => ?_)
  · obtain ⟨M2, -, ⟨-, -, -, -, rfl⟩ | ⟨-, -, -, -, rfl⟩⟩ := hz <;> rfl
  · obtain ⟨M2, h9, ⟨c, hv, h1, h5, rfl⟩ | ⟨c, hv, h1, h5, rfl⟩⟩ := hz
    · have hk1 := hk c
      exact ⟨MWl τ ma M2 Q T D B K V S P, (pe9_014 _ _ _ _ _ _ _ _ _).symm, ⟨0, hv, fun z => absurd z hk1⟩, rfl, fun z => absurd z hk1, fun _ => MW_of hI rfl (h1.trans (if_pos c).symm) h5 h9⟩
    · have hk0 := kA_0 (e1 := 1) (e2 := 2) (e3 := 3) c
      exact ⟨MWl τ ma M2 (pa.2) T D (rmB (M 5) B Q).2 K V S P, (pe9_014 _ _ _ _ _ _ _ _ _).symm, ⟨_, hv, fun _ => rfl⟩, rfl, fun _ => MW_of hm rfl h1 (h5.trans hn) h9, fun z => absurd hk0 z⟩

set_option maxRecDepth 100000 in
theorem h_seal (l : Launch) (g : va_G) (τ : Nat → ClassId) {m : Nat} {Q : Nat → Nat → Int} {n : Int} {B : Nat → Nat → Nat → Int} {V : Nat → Int} {K : Nat → Nat → Nat → Int} {t : Int} {S : Nat → Int} {k0 : Int} {w : va_W} (hw : MW τ m Q n B V K t S k0 w) (a1 : Int) (ra1 : -2147483648 ≤ a1 ∧ a1 < 2147483648) (a2 : Int) (ra2 : -2147483648 ≤ a2 ∧ a2 < 2147483648) (a3 : Int) (ra3 : -2147483648 ≤ a3 ∧ a3 < 2147483648) (a4 : Int) (ra4 : -2147483648 ≤ a4 ∧ a4 < 2147483648) (a5 : Int) (ra5 : -2147483648 ≤ a5 ∧ a5 < 2147483648) : Met l yX10_seal wsX10_seal { frames := 2, cells := 0, slots := 0, locals := 47 } (va_Pc [Value.ref m, Value.int (iI a1), Value.int (iI a2), Value.int (iI a3), Value.int (iI a4), Value.int (iI a5)] (rwW g τ w)) (rwQ g (MZ w (kA (aSeal Q a1 a2 a3 a4 a5).1 1 2 3) (aSeal Q a1 a2 a3 a4 a5).1 (MW τ m (aSeal Q a1 a2 a3 a4 a5).2 (mN n) (rmB n B Q).2 V K t S 0) (MW τ m Q n B V K t S (kA (aSeal Q a1 a2 a3 a4 a5).1 1 2 3))) (inW w)) 0 0 (inW w) := by
  obtain ⟨ma, M, T, D, P, hI, ⟨rfl, h0, rfl, rfl⟩, rfl⟩ := hw
  have hs := SI_aSeal hI.1 a1 a2 a3 a4 a5
  have hr := aSeal_r hI.1 a1 a2 a3 a4 a5
  have hk : (aSeal Q a1 a2 a3 a4 a5).1 < 0 → ¬ kA (aSeal Q a1 a2 a3 a4 a5).1 1 2 3 = 0 := fun c => by
    obtain ⟨E, hE⟩ := xE_of hr c
    exact (kx_123 hE).2
  have hc := c_X10_seal l g τ ma M Q hI.1 a1 ra1 a2 ra2 a3 ra3 a4 ra4 a5 ra5 B hI.2.1
  generalize (aSeal Q a1 a2 a3 a4 a5) = pa at hc hs hk ⊢
  obtain ⟨hm, hn⟩ := hI.act hs
  refine rwfr hc (pe9_014 _ _ _ _ _ _ _ _ _) (fun v w1 hz => ?_) (fun v w1 hz => ?_)
  · obtain ⟨M2, -, ⟨-, -, -, -, rfl⟩ | ⟨-, -, -, -, rfl⟩⟩ := hz <;> rfl
  · obtain ⟨M2, h9, ⟨c, hv, h1, h5, rfl⟩ | ⟨c, hv, h1, h5, rfl⟩⟩ := hz
    · have hk1 := hk c
      exact ⟨MWl τ ma M2 Q T D B K V S P, (pe9_014 _ _ _ _ _ _ _ _ _).symm, ⟨0, hv, fun z => absurd z hk1⟩, rfl, fun z => absurd z hk1, fun _ => MW_of hI rfl (h1.trans (if_pos c).symm) h5 h9⟩
    · have hk0 := kA_0 (e1 := 1) (e2 := 2) (e3 := 3) c
      exact ⟨MWl τ ma M2 (pa.2) T D (rmB (M 5) B Q).2 K V S P, (pe9_014 _ _ _ _ _ _ _ _ _).symm, ⟨_, hv, fun _ => rfl⟩, rfl, fun _ => MW_of hm rfl h1 (h5.trans hn) h9, fun z => absurd hk0 z⟩

set_option maxRecDepth 100000 in
theorem h_show (l : Launch) (g : va_G) (τ : Nat → ClassId) {m : Nat} {Q : Nat → Nat → Int} {n : Int} {B : Nat → Nat → Nat → Int} {V : Nat → Int} {K : Nat → Nat → Nat → Int} {t : Int} {S : Nat → Int} {k0 : Int} {w : va_W} (hw : MW τ m Q n B V K t S k0 w) (a1 : Int) (ra1 : -2147483648 ≤ a1 ∧ a1 < 2147483648) (a2 : Int) (ra2 : -2147483648 ≤ a2 ∧ a2 < 2147483648) : Met l yX10_show wsX10_show { frames := 2, cells := 0, slots := 0, locals := 47 } (va_Pc [Value.ref m, Value.int (iI a1), Value.int (iI a2)] (rwW g τ w)) (rwQ g (MZ w (kA (aShow Q a1 a2).1 1 2 0) (aShow Q a1 a2).1 (MW τ m (aShow Q a1 a2).2 (mN n) (rmB n B Q).2 V K t S 0) (MW τ m Q n B V K t S (kA (aShow Q a1 a2).1 1 2 0))) (inW w)) 0 0 (inW w) := by
  obtain ⟨ma, M, T, D, P, hI, ⟨rfl, h0, rfl, rfl⟩, rfl⟩ := hw
  have hs := SI_aShow hI.1 a1 a2
  have hr := aShow_r hI.1 a1 a2
  have hk : (aShow Q a1 a2).1 < 0 → ¬ kA (aShow Q a1 a2).1 1 2 0 = 0 := fun c => by
    obtain ⟨E, hE⟩ := xE_of hr c
    exact (kx_120 (nx_show hI.1 a1 a2) hE).2
  have hc := c_X10_show l g τ ma M Q hI.1 a1 ra1 a2 ra2 B hI.2.1
  generalize (aShow Q a1 a2) = pa at hc hs hk ⊢
  obtain ⟨hm, hn⟩ := hI.act hs
  refine rwfr hc (pe9_014 _ _ _ _ _ _ _ _ _) (fun v w1 hz => ?_) (fun v w1 hz => ?_)
  · obtain ⟨M2, -, ⟨-, -, -, -, rfl⟩ | ⟨-, -, -, -, rfl⟩⟩ := hz <;> rfl
  · obtain ⟨M2, h9, ⟨c, hv, h1, h5, rfl⟩ | ⟨c, hv, h1, h5, rfl⟩⟩ := hz
    · have hk1 := hk c
      exact ⟨MWl τ ma M2 Q T D B K V S P, (pe9_014 _ _ _ _ _ _ _ _ _).symm, ⟨0, hv, fun z => absurd z hk1⟩, rfl, fun z => absurd z hk1, fun _ => MW_of hI rfl (h1.trans (if_pos c).symm) h5 h9⟩
    · have hk0 := kA_0 (e1 := 1) (e2 := 2) (e3 := 0) c
      exact ⟨MWl τ ma M2 (pa.2) T D (rmB (M 5) B Q).2 K V S P, (pe9_014 _ _ _ _ _ _ _ _ _).symm, ⟨_, hv, fun _ => rfl⟩, rfl, fun _ => MW_of hm rfl h1 (h5.trans hn) h9, fun z => absurd hk0 z⟩

set_option maxRecDepth 100000 in
theorem h_hang (l : Launch) (g : va_G) (τ : Nat → ClassId) {m : Nat} {Q : Nat → Nat → Int} {n : Int} {B : Nat → Nat → Nat → Int} {V : Nat → Int} {K : Nat → Nat → Nat → Int} {t : Int} {S : Nat → Int} {k0 : Int} {w : va_W} (hw : MW τ m Q n B V K t S k0 w) (a1 : Int) (ra1 : -2147483648 ≤ a1 ∧ a1 < 2147483648) (a2 : Int) (ra2 : -2147483648 ≤ a2 ∧ a2 < 2147483648) : Met l yX10_hang wsX10_hang { frames := 2, cells := 0, slots := 0, locals := 46 } (va_Pc [Value.ref m, Value.int (iI a1), Value.int (iI a2)] (rwW g τ w)) (rwQ g (MZ w (kA (aHang Q a1 a2).1 1 0 0) (aHang Q a1 a2).1 (MW τ m (aHang Q a1 a2).2 (mN n) (rmB n B Q).2 V K t S 0) (MW τ m Q n B V K t S (kA (aHang Q a1 a2).1 1 0 0))) (inW w)) 0 0 (inW w) := by
  obtain ⟨ma, M, T, D, P, hI, ⟨rfl, h0, rfl, rfl⟩, rfl⟩ := hw
  have hs := SI_aHang hI.1 a1 a2
  have hr := aHang_r hI.1 a1 a2
  have hk : (aHang Q a1 a2).1 < 0 → ¬ kA (aHang Q a1 a2).1 1 0 0 = 0 := fun c => by
    obtain ⟨E, hE⟩ := xE_of hr c
    exact (kx_100 (nx_hang a1 a2).1 (nx_hang a1 a2).2 hE).2
  have hc := c_X10_hang l g τ ma M Q hI.1 a1 ra1 a2 ra2 B hI.2.1
  generalize (aHang Q a1 a2) = pa at hc hs hk ⊢
  obtain ⟨hm, hn⟩ := hI.act hs
  refine rwfr hc (pe9_014 _ _ _ _ _ _ _ _ _) (fun v w1 hz => ?_) (fun v w1 hz => ?_)
  · obtain ⟨M2, -, ⟨-, -, -, -, rfl⟩ | ⟨-, -, -, -, rfl⟩⟩ := hz <;> rfl
  · obtain ⟨M2, h9, ⟨c, hv, h1, h5, rfl⟩ | ⟨c, hv, h1, h5, rfl⟩⟩ := hz
    · have hk1 := hk c
      exact ⟨MWl τ ma M2 Q T D B K V S P, (pe9_014 _ _ _ _ _ _ _ _ _).symm, ⟨0, hv, fun z => absurd z hk1⟩, rfl, fun z => absurd z hk1, fun _ => MW_of hI rfl (h1.trans (if_pos c).symm) h5 h9⟩
    · have hk0 := kA_0 (e1 := 1) (e2 := 0) (e3 := 0) c
      exact ⟨MWl τ ma M2 (pa.2) T D (rmB (M 5) B Q).2 K V S P, (pe9_014 _ _ _ _ _ _ _ _ _).symm, ⟨_, hv, fun _ => rfl⟩, rfl, fun _ => MW_of hm rfl h1 (h5.trans hn) h9, fun z => absurd hk0 z⟩

set_option maxRecDepth 100000 in
theorem h_cut (l : Launch) (g : va_G) (τ : Nat → ClassId) {m : Nat} {Q : Nat → Nat → Int} {n : Int} {B : Nat → Nat → Nat → Int} {V : Nat → Int} {K : Nat → Nat → Nat → Int} {t : Int} {S : Nat → Int} {k0 : Int} {w : va_W} (hw : MW τ m Q n B V K t S k0 w) (a1 : Int) (ra1 : -2147483648 ≤ a1 ∧ a1 < 2147483648) : Met l yX10_cut wsX10_cut { frames := 2, cells := 0, slots := 0, locals := 46 } (va_Pc [Value.ref m, Value.int (iI a1)] (rwW g τ w)) (rwQ g (MZ w (kA (aCut Q a1).1 1 0 2) (aCut Q a1).1 (MW τ m (aCut Q a1).2 (mN n) (rmB n B Q).2 V K t S 0) (MW τ m Q n B V K t S (kA (aCut Q a1).1 1 0 2))) (inW w)) 0 0 (inW w) := by
  obtain ⟨ma, M, T, D, P, hI, ⟨rfl, h0, rfl, rfl⟩, rfl⟩ := hw
  have hs := SI_aCut hI.1 a1
  have hr := aCut_r hI.1 a1
  have hk : (aCut Q a1).1 < 0 → ¬ kA (aCut Q a1).1 1 0 2 = 0 := fun c => by
    obtain ⟨E, hE⟩ := xE_of hr c
    exact (kx_102 (nx_cut hI.1 a1) hE).2
  have hc := c_X10_cut l g τ ma M Q hI.1 a1 ra1 B hI.2.1
  generalize (aCut Q a1) = pa at hc hs hk ⊢
  obtain ⟨hm, hn⟩ := hI.act hs
  refine rwfr hc (pe9_014 _ _ _ _ _ _ _ _ _) (fun v w1 hz => ?_) (fun v w1 hz => ?_)
  · obtain ⟨M2, -, ⟨-, -, -, -, rfl⟩ | ⟨-, -, -, -, rfl⟩⟩ := hz <;> rfl
  · obtain ⟨M2, h9, ⟨c, hv, h1, h5, rfl⟩ | ⟨c, hv, h1, h5, rfl⟩⟩ := hz
    · have hk1 := hk c
      exact ⟨MWl τ ma M2 Q T D B K V S P, (pe9_014 _ _ _ _ _ _ _ _ _).symm, ⟨0, hv, fun z => absurd z hk1⟩, rfl, fun z => absurd z hk1, fun _ => MW_of hI rfl (h1.trans (if_pos c).symm) h5 h9⟩
    · have hk0 := kA_0 (e1 := 1) (e2 := 0) (e3 := 2) c
      exact ⟨MWl τ ma M2 (pa.2) T D (rmB (M 5) B Q).2 K V S P, (pe9_014 _ _ _ _ _ _ _ _ _).symm, ⟨_, hv, fun _ => rfl⟩, rfl, fun _ => MW_of hm rfl h1 (h5.trans hn) h9, fun z => absurd hk0 z⟩

set_option maxRecDepth 100000 in
theorem h_shelve (l : Launch) (g : va_G) (τ : Nat → ClassId) {m : Nat} {Q : Nat → Nat → Int} {n : Int} {B : Nat → Nat → Nat → Int} {V : Nat → Int} {K : Nat → Nat → Nat → Int} {t : Int} {S : Nat → Int} {k0 : Int} {w : va_W} (hw : MW τ m Q n B V K t S k0 w) (a1 : Int) (ra1 : -2147483648 ≤ a1 ∧ a1 < 2147483648) (a2 : Int) (ra2 : -2147483648 ≤ a2 ∧ a2 < 2147483648) (a3 : Int) (ra3 : -2147483648 ≤ a3 ∧ a3 < 2147483648) : Met l yX10_shelve wsX10_shelve { frames := 4, cells := 0, slots := 0, locals := 95 } (va_Pc [Value.ref m, Value.int (iI a1), Value.int (iI a2), Value.int (iI a3)] (rwW g τ w)) (rwQ g (MZ w (kA (aShelve Q a1 a2 a3).1 1 2 3) (aShelve Q a1 a2 a3).1 (MW τ m (aShelve Q a1 a2 a3).2 (mN n) (rmB n B Q).2 V K t S 0) (MW τ m Q n B V K t S (kA (aShelve Q a1 a2 a3).1 1 2 3))) (inW w)) 0 0 (inW w) := by
  obtain ⟨ma, M, T, D, P, hI, ⟨rfl, h0, rfl, rfl⟩, rfl⟩ := hw
  have hs := SI_aShelve hI.1 a1 a2 a3
  have hr := aShelve_r hI.1 a1 a2 a3
  have hk : (aShelve Q a1 a2 a3).1 < 0 → ¬ kA (aShelve Q a1 a2 a3).1 1 2 3 = 0 := fun c => by
    obtain ⟨E, hE⟩ := xE_of hr c
    exact (kx_123 hE).2
  have hc := c_X10_shelve l g τ ma M Q hI.1 a1 ra1 a2 ra2 a3 ra3 B hI.2.1
  generalize (aShelve Q a1 a2 a3) = pa at hc hs hk ⊢
  obtain ⟨hm, hn⟩ := hI.act hs
  refine rwfr hc (pe9_014 _ _ _ _ _ _ _ _ _) (fun v w1 hz => ?_) (fun v w1 hz => ?_)
  · obtain ⟨M2, -, ⟨-, -, -, -, rfl⟩ | ⟨-, -, -, -, rfl⟩⟩ := hz <;> rfl
  · obtain ⟨M2, h9, ⟨c, hv, h1, h5, rfl⟩ | ⟨c, hv, h1, h5, rfl⟩⟩ := hz
    · have hk1 := hk c
      exact ⟨MWl τ ma M2 Q T D B K V S P, (pe9_014 _ _ _ _ _ _ _ _ _).symm, ⟨0, hv, fun z => absurd z hk1⟩, rfl, fun z => absurd z hk1, fun _ => MW_of hI rfl (h1.trans (if_pos c).symm) h5 h9⟩
    · have hk0 := kA_0 (e1 := 1) (e2 := 2) (e3 := 3) c
      exact ⟨MWl τ ma M2 (pa.2) T D (rmB (M 5) B Q).2 K V S P, (pe9_014 _ _ _ _ _ _ _ _ _).symm, ⟨_, hv, fun _ => rfl⟩, rfl, fun _ => MW_of hm rfl h1 (h5.trans hn) h9, fun z => absurd hk0 z⟩

set_option maxRecDepth 100000 in
theorem h_take (l : Launch) (g : va_G) (τ : Nat → ClassId) {m : Nat} {Q : Nat → Nat → Int} {n : Int} {B : Nat → Nat → Nat → Int} {V : Nat → Int} {K : Nat → Nat → Nat → Int} {t : Int} {S : Nat → Int} {k0 : Int} {w : va_W} (hw : MW τ m Q n B V K t S k0 w) (a1 : Int) (ra1 : -2147483648 ≤ a1 ∧ a1 < 2147483648) : Met l yX10_take wsX10_take { frames := 3, cells := 0, slots := 0, locals := 71 } (va_Pc [Value.ref m, Value.int (iI a1)] (rwW g τ w)) (rwQ g (MZ w (kA (aTake Q a1).1 1 0 2) (aTake Q a1).1 (MW τ m (aTake Q a1).2 (mN n) (rmB n B Q).2 V K t S 0) (MW τ m Q n B V K t S (kA (aTake Q a1).1 1 0 2))) (inW w)) 0 0 (inW w) := by
  obtain ⟨ma, M, T, D, P, hI, ⟨rfl, h0, rfl, rfl⟩, rfl⟩ := hw
  have hs := SI_aTake hI.1 a1
  have hr := aTake_r hI.1 a1
  have hk : (aTake Q a1).1 < 0 → ¬ kA (aTake Q a1).1 1 0 2 = 0 := fun c => by
    obtain ⟨E, hE⟩ := xE_of hr c
    exact (kx_102 (nx_take a1) hE).2
  have hc := c_X10_take l g τ ma M Q hI.1 a1 ra1 B hI.2.1
  generalize (aTake Q a1) = pa at hc hs hk ⊢
  obtain ⟨hm, hn⟩ := hI.act hs
  refine rwfr hc (pe9_014 _ _ _ _ _ _ _ _ _) (fun v w1 hz => ?_) (fun v w1 hz => ?_)
  · obtain ⟨M2, -, ⟨-, -, -, -, rfl⟩ | ⟨-, -, -, -, rfl⟩⟩ := hz <;> rfl
  · obtain ⟨M2, h9, ⟨c, hv, h1, h5, rfl⟩ | ⟨c, hv, h1, h5, rfl⟩⟩ := hz
    · have hk1 := hk c
      exact ⟨MWl τ ma M2 Q T D B K V S P, (pe9_014 _ _ _ _ _ _ _ _ _).symm, ⟨0, hv, fun z => absurd z hk1⟩, rfl, fun z => absurd z hk1, fun _ => MW_of hI rfl (h1.trans (if_pos c).symm) h5 h9⟩
    · have hk0 := kA_0 (e1 := 1) (e2 := 0) (e3 := 2) c
      exact ⟨MWl τ ma M2 (pa.2) T D (rmB (M 5) B Q).2 K V S P, (pe9_014 _ _ _ _ _ _ _ _ _).symm, ⟨_, hv, fun _ => rfl⟩, rfl, fun _ => MW_of hm rfl h1 (h5.trans hn) h9, fun z => absurd hk0 z⟩

set_option maxRecDepth 100000 in
theorem h_sort (l : Launch) (g : va_G) (τ : Nat → ClassId) {m : Nat} {Q : Nat → Nat → Int} {n : Int} {B : Nat → Nat → Nat → Int} {V : Nat → Int} {K : Nat → Nat → Nat → Int} {t : Int} {S : Nat → Int} {k0 : Int} {w : va_W} (hw : MW τ m Q n B V K t S k0 w) (a1 : Int) (ra1 : -2147483648 ≤ a1 ∧ a1 < 2147483648) : Met l yX10_sort wsX10_sort { frames := 9, cells := 0, slots := 0, locals := 217 } (va_Pc [Value.ref m, Value.int (iI a1)] (rwW g τ w)) (rwQ g (MZ w (kA (aSrt Q a1).1 1 0 0) (aSrt Q a1).1 (MW τ m (aSrt Q a1).2 (mN n) (rmB n B Q).2 V K t S 0) (MW τ m Q n B V K t S (kA (aSrt Q a1).1 1 0 0))) (inW w)) 0 0 (inW w) := by
  obtain ⟨ma, M, T, D, P, hI, ⟨rfl, h0, rfl, rfl⟩, rfl⟩ := hw
  have hs := SI_aSrt hI.1 a1
  obtain ⟨hm, hn⟩ := hI.act hs
  have hc := c_X10_sort l g τ ma M Q hI.1 a1 ra1 B hI.2.1 P
  refine rwfr hc (pe9_0148 _ _ _ _ _ _ _ _ _) (fun v w1 hz => ?_) (fun v w1 hz => ?_)
  · obtain ⟨M2, P2, -, ⟨-, -, -, -, rfl⟩ | ⟨-, -, -, -, rfl⟩⟩ := hz <;> rfl
  · obtain ⟨M2, P2, h9, ⟨c, hv, h1, h5, rfl⟩ | ⟨c, hv, h1, h5, rfl⟩⟩ := hz
    · have ea : aSrt Q a1 = (-2, Q) := if_pos (by omega)
      have hk1 : kA (aSrt Q a1).1 1 0 0 = 1 := by rw [ea]; rfl
      have hne : ¬ kA (aSrt Q a1).1 1 0 0 = 0 := by rw [hk1]; decide
      exact ⟨MWl τ ma M2 Q T D B K V S P2, (pe9_0148 _ _ _ _ _ _ _ _ _).symm, ⟨0, hv, fun z => absurd z hne⟩, rfl, fun z => absurd z hne, fun _ => MW_of hI rfl (h1.trans hk1.symm) h5 h9⟩
    · have ea : aSrt Q a1 = (oN Q a1.toNat (Q 18 a1.toNat).toNat, sR Q a1.toNat) := if_neg (by omega)
      have ha : 0 ≤ (aSrt Q a1).1 := by
        rw [ea]
        exact (cnt_le _ _).1
      have hk0 := kA_0 (e1 := 1) (e2 := 0) (e3 := 0) ha
      have e1 : (aSrt Q a1).1 = oN Q a1.toNat (Q 18 a1.toNat).toNat := by rw [ea]
      have e2 : (aSrt Q a1).2 = sR Q a1.toNat := by rw [ea]
      rw [e2] at hm
      refine ⟨MWl τ ma M2 (sR Q a1.toNat) T D (rmB (M 5) B Q).2 K V S P2, (pe9_0148 _ _ _ _ _ _ _ _ _).symm, ⟨_, hv, fun _ => e1.symm⟩, rfl, fun _ => ?_, fun z => absurd hk0 z⟩
      rw [e2]
      exact MW_of hm rfl h1 (h5.trans hn) h9

set_option maxRecDepth 100000 in
theorem h_set (l : Launch) (g : va_G) (τ : Nat → ClassId) {m : Nat} {Q : Nat → Nat → Int} {n : Int} {B : Nat → Nat → Nat → Int} {V : Nat → Int} {K : Nat → Nat → Nat → Int} {t : Int} {S : Nat → Int} {k0 : Int} {w : va_W} (hw : MW τ m Q n B V K t S k0 w) (a1 : Int) (ra1 : -2147483648 ≤ a1 ∧ a1 < 2147483648) (a2 : Int) (ra2 : -2147483648 ≤ a2 ∧ a2 < 2147483648) : Met l yX10_set wsX10_set { frames := 1, cells := 0, slots := 0, locals := 25 } (va_Pc [Value.ref m, Value.int (iI a1), Value.int (iI a2)] (rwW g τ w)) (rwQ g (MZ w (kA (aSet Q a1 a2).1 0 1 0) (aSet Q a1 a2).1 (MW τ m (aSet Q a1 a2).2 (mN n) (rmB n B Q).2 V K t S 0) (MW τ m Q n B V K t S (kA (aSet Q a1 a2).1 0 1 0))) (inW w)) 0 0 (inW w) := by
  obtain ⟨ma, M, T, D, P, hI, ⟨rfl, h0, rfl, rfl⟩, rfl⟩ := hw
  have hs := SI_aSet hI.1 a1 a2
  have hr := aSet_r hI.1 a1 a2
  have hk : (aSet Q a1 a2).1 < 0 → ¬ kA (aSet Q a1 a2).1 0 1 0 = 0 := fun c => by
    obtain ⟨E, hE⟩ := xE_of hr c
    exact (kx_010 (nx_set hI.1 a1 a2).1 (nx_set hI.1 a1 a2).2 hE).2
  have hc := c_X10_set l g τ ma M Q hI.1 a1 ra1 a2 ra2 B hI.2.1
  generalize (aSet Q a1 a2) = pa at hc hs hk ⊢
  obtain ⟨hm, hn⟩ := hI.act hs
  refine rwfr hc (pe9_014 _ _ _ _ _ _ _ _ _) (fun v w1 hz => ?_) (fun v w1 hz => ?_)
  · obtain ⟨M2, -, ⟨-, -, -, -, rfl⟩ | ⟨-, -, -, -, rfl⟩⟩ := hz <;> rfl
  · obtain ⟨M2, h9, ⟨c, hv, h1, h5, rfl⟩ | ⟨c, hv, h1, h5, rfl⟩⟩ := hz
    · have hk1 := hk c
      exact ⟨MWl τ ma M2 Q T D B K V S P, (pe9_014 _ _ _ _ _ _ _ _ _).symm, ⟨0, hv, fun z => absurd z hk1⟩, rfl, fun z => absurd z hk1, fun _ => MW_of hI rfl (h1.trans (if_pos c).symm) h5 h9⟩
    · have hk0 := kA_0 (e1 := 0) (e2 := 1) (e3 := 0) c
      exact ⟨MWl τ ma M2 (pa.2) T D (rmB (M 5) B Q).2 K V S P, (pe9_014 _ _ _ _ _ _ _ _ _).symm, ⟨_, hv, fun _ => rfl⟩, rfl, fun _ => MW_of hm rfl h1 (h5.trans hn) h9, fun z => absurd hk0 z⟩

set_option maxRecDepth 100000 in
theorem h_undo (l : Launch) (g : va_G) (τ : Nat → ClassId) {m : Nat} {Q : Nat → Nat → Int} {n : Int} {B : Nat → Nat → Nat → Int} {V : Nat → Int} {K : Nat → Nat → Nat → Int} {t : Int} {S : Nat → Int} {k0 : Int} {w : va_W} (hw : MW τ m Q n B V K t S k0 w)  : Met l yX10_undo wsX10_undo { frames := 1, cells := 0, slots := 0, locals := 21 } (va_Pc [Value.ref m] (rwW g τ w)) (rwQ g (MZ w ((if n = 0 then 1 else 0 : Int)) (n - 1) (MW τ m (B (n - 1).toNat) (n - 1) B V K t S 0) (MW τ m Q n B V K t S ((if n = 0 then 1 else 0 : Int)))) (inW w)) 0 0 (inW w) := by
  obtain ⟨ma, M, T, D, P, hI, ⟨rfl, h0, rfl, rfl⟩, rfl⟩ := hw
  refine rwfr (c_X10_undo l g τ ma M Q hI.1 B hI.2.1) (pe9_014 _ _ _ _ _ _ _ _ _) (fun v w1 hz => ?_) (fun v w1 hz => ?_)
  · obtain ⟨M2, -, ⟨-, -, -, -, rfl⟩ | ⟨-, -, -, -, rfl⟩⟩ := hz <;> rfl
  · obtain ⟨M2, h9, ⟨c, hv, h1, h5, rfl⟩ | ⟨c, hv, h1, h5, rfl⟩⟩ := hz
    · have hk1 : (if M 5 = 0 then 1 else 0 : Int) = 1 := if_pos c
      have hne : ¬ (if M 5 = 0 then 1 else 0 : Int) = 0 := by rw [hk1]; decide
      exact ⟨MWl τ ma M2 Q T D B K V S P, (pe9_014 _ _ _ _ _ _ _ _ _).symm, ⟨0, hv, fun z => absurd z hne⟩, rfl, fun z => absurd z hne, fun _ => MW_of hI rfl (h1.trans hk1.symm) h5 h9⟩
    · have hk0 : (if M 5 = 0 then 1 else 0 : Int) = 0 := if_neg (by omega)
      exact ⟨MWl τ ma M2 (B (M 5 - 1).toNat) T D B K V S P, (pe9_014 _ _ _ _ _ _ _ _ _).symm, ⟨_, hv, fun _ => rfl⟩, rfl, fun _ => MW_of (hI.und c) rfl h1 h5 h9, fun z => absurd hk0 z⟩

set_option maxRecDepth 100000 in
theorem h_older (l : Launch) (g : va_G) (τ : Nat → ClassId) {m : Nat} {Q : Nat → Nat → Int} {n : Int} {B : Nat → Nat → Nat → Int} {V : Nat → Int} {K : Nat → Nat → Nat → Int} {t : Int} {S : Nat → Int} {k0 : Int} {w : va_W} (hw : MW τ m Q n B V K t S k0 w) (a1 : Int) (ra1 : -2147483648 ≤ a1 ∧ a1 < 2147483648) (a2 : Int) (ra2 : -2147483648 ≤ a2 ∧ a2 < 2147483648) : Met l yX10_older wsX10_older { frames := 3, cells := 0, slots := 0, locals := 74 } (va_Pc [Value.ref m, Value.int (iI a1), Value.int (iI a2)] (rwW g τ w)) (rwQ g (MZ w ((pOlder Q a1 a2).1) (pOlder Q a1 a2).2 (MW τ m Q n B V K t S 0) (MW τ m Q n B V K t S ((pOlder Q a1 a2).1))) (inW w)) 0 0 (inW w) := by
  obtain ⟨ma, M, T, D, P, hI, ⟨rfl, h0, rfl, rfl⟩, rfl⟩ := hw
  have hc := c_X10_older l g τ ma M Q hI.1 a1 ra1 a2 ra2
  generalize (pOlder Q a1 a2) = pa at hc ⊢
  refine rwfr hc (pe9_01 _ _ _ _ _ _ _ _ _) (fun v w1 hz => ?_) (fun v w1 hz => ?_)
  · obtain ⟨-, M2, -, -, -, rfl⟩ := hz
    rfl
  · obtain ⟨hv, M2, h1, h2, h3, rfl⟩ := hz
    exact ⟨MWl τ ma M2 Q T D B K V S P, (pe9_01 _ _ _ _ _ _ _ _ _).symm, ⟨_, hv, fun _ => rfl⟩, rfl, fun c => MW_of hI rfl (h1.trans c) h2 h3, fun _ => MW_of hI rfl h1 h2 h3⟩

set_option maxRecDepth 100000 in
theorem h_decides (l : Launch) (g : va_G) (τ : Nat → ClassId) {m : Nat} {Q : Nat → Nat → Int} {n : Int} {B : Nat → Nat → Nat → Int} {V : Nat → Int} {K : Nat → Nat → Nat → Int} {t : Int} {S : Nat → Int} {k0 : Int} {w : va_W} (hw : MW τ m Q n B V K t S k0 w) (a1 : Int) (ra1 : -2147483648 ≤ a1 ∧ a1 < 2147483648) : Met l yX10_decides wsX10_decides { frames := 6, cells := 0, slots := 0, locals := 143 } (va_Pc [Value.ref m, Value.int (iI a1)] (rwW g τ w)) (rwQ g (MZ w ((pDec Q a1).1) (pDec Q a1).2 (MW τ m Q n B V K t S 0) (MW τ m Q n B V K t S ((pDec Q a1).1))) (inW w)) 0 0 (inW w) := by
  obtain ⟨ma, M, T, D, P, hI, ⟨rfl, h0, rfl, rfl⟩, rfl⟩ := hw
  have hc := c_X10_decides l g τ ma M Q hI.1 a1 ra1
  generalize (pDec Q a1) = pa at hc ⊢
  refine rwfr hc (pe9_01 _ _ _ _ _ _ _ _ _) (fun v w1 hz => ?_) (fun v w1 hz => ?_)
  · obtain ⟨-, M2, -, -, -, rfl⟩ := hz
    rfl
  · obtain ⟨hv, M2, h1, h2, h3, rfl⟩ := hz
    exact ⟨MWl τ ma M2 Q T D B K V S P, (pe9_01 _ _ _ _ _ _ _ _ _).symm, ⟨_, hv, fun _ => rfl⟩, rfl, fun c => MW_of hI rfl (h1.trans c) h2 h3, fun _ => MW_of hI rfl h1 h2 h3⟩

set_option maxRecDepth 100000 in
theorem h_ifCracked (l : Launch) (g : va_G) (τ : Nat → ClassId) {m : Nat} {Q : Nat → Nat → Int} {n : Int} {B : Nat → Nat → Nat → Int} {V : Nat → Int} {K : Nat → Nat → Nat → Int} {t : Int} {S : Nat → Int} {k0 : Int} {w : va_W} (hw : MW τ m Q n B V K t S k0 w) (a1 : Int) (ra1 : -2147483648 ≤ a1 ∧ a1 < 2147483648) (a2 : Int) (ra2 : -2147483648 ≤ a2 ∧ a2 < 2147483648) : Met l yX10_ifCracked wsX10_ifCracked { frames := 8, cells := 0, slots := 0, locals := 189 } (va_Pc [Value.ref m, Value.int (iI a1), Value.int (iI a2)] (rwW g τ w)) (rwQ g (MZ w (kA (aCrack Q a1 a2).1 1 2 3) (vCr Q a1 a2) (MW τ m Q n B V K t S 0) (MW τ m Q n B V K t S (kA (aCrack Q a1 a2).1 1 2 3))) (inW w)) 0 0 (inW w) := by
  obtain ⟨ma, M, T, D, P, hI, ⟨rfl, h0, rfl, rfl⟩, rfl⟩ := hw
  have hc := c_X10_ifCracked l g τ ma M Q hI.1 T a1 ra1 a2 ra2
  refine rwfr hc (pe9_012 _ _ _ _ _ _ _ _ _) (fun v w1 hz => ?_) (fun v w1 hz => ?_)
  · obtain ⟨M2, T2, -, -, rfl, -⟩ := hz
    rfl
  · obtain ⟨M2, T2, h5, h9, rfl, ⟨c, hv, h1⟩ | ⟨c, hv, h1⟩⟩ := hz
    · have hne : ¬ kA (aCrack Q a1 a2).1 1 2 3 = 0 := by
        obtain ⟨E, hE⟩ := xE_of (aCrack_r hI.1 a1 a2) c
        exact (kx_123 hE).2
      exact ⟨MWl τ ma M2 Q T2 D B K V S P, (pe9_012 _ _ _ _ _ _ _ _ _).symm, ⟨0, hv, fun z => absurd z hne⟩, rfl, fun z => absurd z hne, fun _ => MW_of hI rfl (h1.trans (if_pos c).symm) h5 h9⟩
    · have hk0 : kA (aCrack Q a1 a2).1 1 2 3 = 0 := kA_0 (e1 := 1) (e2 := 2) (e3 := 3) c
      exact ⟨MWl τ ma M2 Q T2 D B K V S P, (pe9_012 _ _ _ _ _ _ _ _ _).symm, ⟨_, hv, fun _ => rfl⟩, rfl, fun _ => MW_of hI rfl h1 h5 h9, fun z => absurd hk0 z⟩

set_option maxRecDepth 100000 in
theorem h_ifHung (l : Launch) (g : va_G) (τ : Nat → ClassId) {m : Nat} {Q : Nat → Nat → Int} {n : Int} {B : Nat → Nat → Nat → Int} {V : Nat → Int} {K : Nat → Nat → Nat → Int} {t : Int} {S : Nat → Int} {k0 : Int} {w : va_W} (hw : MW τ m Q n B V K t S k0 w) (a1 : Int) (ra1 : -2147483648 ≤ a1 ∧ a1 < 2147483648) (a2 : Int) (ra2 : -2147483648 ≤ a2 ∧ a2 < 2147483648) : Met l yX10_ifHung wsX10_ifHung { frames := 6, cells := 0, slots := 0, locals := 143 } (va_Pc [Value.ref m, Value.int (iI a1), Value.int (iI a2)] (rwW g τ w)) (rwQ g (MZ w (kA (aHang Q a1 a2).1 1 0 0) (rCh (aHang Q a1 a2).2 a2 (-1) 2) (MW τ m Q n B V K t S 0) (MW τ m Q n B V K t S (kA (aHang Q a1 a2).1 1 0 0))) (inW w)) 0 0 (inW w) := by
  obtain ⟨ma, M, T, D, P, hI, ⟨rfl, h0, rfl, rfl⟩, rfl⟩ := hw
  have hc := c_X10_ifHung l g τ ma M Q hI.1 T a1 ra1 a2 ra2
  refine rwfr hc (pe9_012 _ _ _ _ _ _ _ _ _) (fun v w1 hz => ?_) (fun v w1 hz => ?_)
  · obtain ⟨M2, T2, -, -, rfl, -⟩ := hz
    rfl
  · obtain ⟨M2, T2, h5, h9, rfl, ⟨c, hv, h1⟩ | ⟨c, hv, h1⟩⟩ := hz
    · have hne : ¬ kA (aHang Q a1 a2).1 1 0 0 = 0 := by
        obtain ⟨E, hE⟩ := xE_of (aHang_r hI.1 a1 a2) c
        exact (kx_100 (nx_hang a1 a2).1 (nx_hang a1 a2).2 hE).2
      have hk1 : kA (aHang Q a1 a2).1 1 0 0 = 1 := by
        obtain ⟨E, hE⟩ := xE_of (aHang_r hI.1 a1 a2) c
        exact (kx_100 (nx_hang a1 a2).1 (nx_hang a1 a2).2 hE).1.1
      exact ⟨MWl τ ma M2 Q T2 D B K V S P, (pe9_012 _ _ _ _ _ _ _ _ _).symm, ⟨0, hv, fun z => absurd z hne⟩, rfl, fun z => absurd z hne, fun _ => MW_of hI rfl (h1.trans hk1.symm) h5 h9⟩
    · have hk0 : kA (aHang Q a1 a2).1 1 0 0 = 0 := kA_0 (e1 := 1) (e2 := 0) (e3 := 0) c
      exact ⟨MWl τ ma M2 Q T2 D B K V S P, (pe9_012 _ _ _ _ _ _ _ _ _).symm, ⟨_, hv, fun _ => rfl⟩, rfl, fun _ => MW_of hI rfl h1 h5 h9, fun z => absurd hk0 z⟩

set_option maxRecDepth 100000 in
theorem h_inYear (l : Launch) (g : va_G) (τ : Nat → ClassId) {m : Nat} {Q : Nat → Nat → Int} {n : Int} {B : Nat → Nat → Nat → Int} {V : Nat → Int} {K : Nat → Nat → Nat → Int} {t : Int} {S : Nat → Int} {k0 : Int} {w : va_W} (hw : MW τ m Q n B V K t S k0 w) (a1 : Int) (ra1 : -2147483648 ≤ a1 ∧ a1 < 2147483648) : Met l yX10_inYear wsX10_inYear { frames := 7, cells := 0, slots := 0, locals := 166 } (va_Pc [Value.ref m, Value.int (iI a1)] (rwW g τ w)) (rwQ g (MZ w ((pIn Q a1).1) (pIn Q a1).2 (MW τ m Q n B V K t S 0) (MW τ m Q n B V K t S ((pIn Q a1).1))) (inW w)) 0 0 (inW w) := by
  obtain ⟨ma, M, T, D, P, hI, ⟨rfl, h0, rfl, rfl⟩, rfl⟩ := hw
  have hc := c_X10_inYear l g τ ma M Q hI.1 a1 ra1
  generalize (pIn Q a1) = pa at hc ⊢
  refine rwfr hc (pe9_01 _ _ _ _ _ _ _ _ _) (fun v w1 hz => ?_) (fun v w1 hz => ?_)
  · obtain ⟨-, M2, -, -, -, rfl⟩ := hz
    rfl
  · obtain ⟨hv, M2, h1, h2, h3, rfl⟩ := hz
    exact ⟨MWl τ ma M2 Q T D B K V S P, (pe9_01 _ _ _ _ _ _ _ _ _).symm, ⟨_, hv, fun _ => rfl⟩, rfl, fun c => MW_of hI rfl (h1.trans c) h2 h3, fun _ => MW_of hI rfl h1 h2 h3⟩

set_option maxRecDepth 100000 in
theorem h_leastBubbles (l : Launch) (g : va_G) (τ : Nat → ClassId) {m : Nat} {Q : Nat → Nat → Int} {n : Int} {B : Nat → Nat → Nat → Int} {V : Nat → Int} {K : Nat → Nat → Nat → Int} {t : Int} {S : Nat → Int} {k0 : Int} {w : va_W} (hw : MW τ m Q n B V K t S k0 w) (a1 : Int) (ra1 : -2147483648 ≤ a1 ∧ a1 < 2147483648) (a2 : Int) (ra2 : -2147483648 ≤ a2 ∧ a2 < 2147483648) : Met l yX10_leastBubbles wsX10_leastBubbles { frames := 8, cells := 0, slots := 0, locals := 189 } (va_Pc [Value.ref m, Value.int (iI a1), Value.int (iI a2)] (rwW g τ w)) (rwQ g (MZ w (kLb a1 a2) (lbN Q a1.toNat a2) (MW τ m Q n B V K t S 0) (MW τ m Q n B V K t S (kLb a1 a2))) (inW w)) 0 0 (inW w) := by
  obtain ⟨ma, M, T, D, P, hI, ⟨rfl, h0, rfl, rfl⟩, rfl⟩ := hw
  have hc := c_X10_leastBubbles l g τ ma M Q hI.1 T a1 ra1 a2 ra2
  refine rwfr hc (pe9_012 _ _ _ _ _ _ _ _ _) (fun v w1 hz => ?_) (fun v w1 hz => ?_)
  · obtain ⟨M2, T2, -, -, rfl, -⟩ := hz
    rfl
  · obtain ⟨M2, T2, h5, h9, rfl, ⟨c, hv, h1⟩ | ⟨c, hv, h1⟩⟩ := hz
    · have hk1 : kLb a1 a2 = 1 := if_neg c
      have hne : ¬ kLb a1 a2 = 0 := by rw [hk1]; decide
      exact ⟨MWl τ ma M2 Q T2 D B K V S P, (pe9_012 _ _ _ _ _ _ _ _ _).symm, ⟨0, hv, fun z => absurd z hne⟩, rfl, fun z => absurd z hne, fun _ => MW_of hI rfl (h1.trans hk1.symm) h5 h9⟩
    · have hk0 : kLb a1 a2 = 0 := if_pos c
      exact ⟨MWl τ ma M2 Q T2 D B K V S P, (pe9_012 _ _ _ _ _ _ _ _ _).symm, ⟨_, hv, fun _ => rfl⟩, rfl, fun _ => MW_of hI rfl h1 h5 h9, fun z => absurd hk0 z⟩

set_option maxRecDepth 100000 in
theorem h_runScript (l : Launch) (g : va_G) (τ : Nat → ClassId) {m : Nat} {Q : Nat → Nat → Int} {n : Int} {B : Nat → Nat → Nat → Int} {V : Nat → Int} {K : Nat → Nat → Nat → Int} {t : Int} {S : Nat → Int} {k0 : Int} {w : va_W} (hw : MW τ m Q n B V K t S k0 w) (a1 : Int) (ra1 : -2147483648 ≤ a1 ∧ a1 < 2147483648) (z1 : Int) (hz1 : rngl z1) : Met l yX10_runScript wsX10_runScript { frames := 11, cells := 0, slots := 0, locals := 264 } (va_Pc [Value.ref m, Value.int (iI a1), Value.long (iL z1)] (rwW g τ w)) (rwQ g (MZ w (kRn a1 z1) (qRunN Q a1.toNat z1) (MW τ m Q n B V K t S 0) (MW τ m Q n B V K t S (kRn a1 z1))) (inW w)) 0 0 (inW w) := by
  obtain ⟨ma, M, T, D, P, hI, ⟨rfl, h0, rfl, rfl⟩, rfl⟩ := hw
  have hc := c_X10_runScript l g τ ma M Q hI.1 T P a1 ra1 z1 hz1
  refine rwfr hc (pe9_0128 _ _ _ _ _ _ _ _ _) (fun v w1 hz => ?_) (fun v w1 hz => ?_)
  · obtain ⟨M2, T2, P2, -, -, rfl, -⟩ := hz
    rfl
  · obtain ⟨M2, T2, P2, h5, h9, rfl, ⟨c, hv, h1⟩ | ⟨c, hv, h1⟩⟩ := hz
    · have hk1 : kRn a1 z1 = 1 := if_neg c
      have hne : ¬ kRn a1 z1 = 0 := by rw [hk1]; decide
      exact ⟨MWl τ ma M2 Q T2 D B K V S P2, (pe9_0128 _ _ _ _ _ _ _ _ _).symm, ⟨0, hv, fun z => absurd z hne⟩, rfl, fun z => absurd z hne, fun _ => MW_of hI rfl (h1.trans hk1.symm) h5 h9⟩
    · have hk0 : kRn a1 z1 = 0 := if_pos c
      exact ⟨MWl τ ma M2 Q T2 D B K V S P2, (pe9_0128 _ _ _ _ _ _ _ _ _).symm, ⟨_, hv, fun _ => rfl⟩, rfl, fun _ => MW_of hI rfl h1 h5 h9, fun z => absurd hk0 z⟩

set_option maxRecDepth 100000 in
theorem h_simulate (l : Launch) (g : va_G) (τ : Nat → ClassId) {m : Nat} {Q : Nat → Nat → Int} {n : Int} {B : Nat → Nat → Nat → Int} {V : Nat → Int} {K : Nat → Nat → Nat → Int} {t : Int} {S : Nat → Int} {k0 : Int} {w : va_W} (hw : MW τ m Q n B V K t S k0 w) (x1 : Int64) (a1 : Int) (ra1 : -2147483648 ≤ a1 ∧ a1 < 2147483648) : Met l yX10_simulate wsX10_simulate { frames := 11, cells := 0, slots := 0, locals := 261 } (va_Pc [Value.ref m, Value.long x1, Value.int (iI a1)] (rwW g τ w)) (rwQ g (MZ w (kSm a1) (qSimN Q x1 a1.toNat) (MW τ m Q n B V K t S 0) (MW τ m Q n B V K t S (kSm a1))) (inW w)) 0 0 (inW w) := by
  obtain ⟨ma, M, T, D, P, hI, ⟨rfl, h0, rfl, rfl⟩, rfl⟩ := hw
  have hc := c_X10_simulate l g τ ma M Q hI.1 T P x1 a1 ra1
  refine rwfr hc (pe9_0128 _ _ _ _ _ _ _ _ _) (fun v w1 hz => ?_) (fun v w1 hz => ?_)
  · obtain ⟨M2, T2, P2, -, -, rfl, -⟩ := hz
    rfl
  · obtain ⟨M2, T2, P2, h5, h9, rfl, ⟨c, hv, h1⟩ | ⟨c, hv, h1⟩⟩ := hz
    · have hk1 : kSm a1 = 1 := if_neg c
      have hne : ¬ kSm a1 = 0 := by rw [hk1]; decide
      exact ⟨MWl τ ma M2 Q T2 D B K V S P2, (pe9_0128 _ _ _ _ _ _ _ _ _).symm, ⟨0, hv, fun z => absurd z hne⟩, rfl, fun z => absurd z hne, fun _ => MW_of hI rfl (h1.trans hk1.symm) h5 h9⟩
    · have hk0 : kSm a1 = 0 := if_pos c
      exact ⟨MWl τ ma M2 Q T2 D B K V S P2, (pe9_0128 _ _ _ _ _ _ _ _ _).symm, ⟨_, hv, fun _ => rfl⟩, rfl, fun _ => MW_of hI rfl h1 h5 h9, fun z => absurd hk0 z⟩

set_option maxRecDepth 100000 in
theorem h_save (l : Launch) (g : va_G) (τ : Nat → ClassId) {m : Nat} {Q : Nat → Nat → Int} {n : Int} {B : Nat → Nat → Nat → Int} {V : Nat → Int} {K : Nat → Nat → Nat → Int} {t : Int} {S : Nat → Int} {k0 : Int} {w : va_W} (hw : MW τ m Q n B V K t S k0 w) (a1 : Int) (ra1 : -2147483648 ≤ a1 ∧ a1 < 2147483648) : Met l yX10_save wsX10_save { frames := 1, cells := 0, slots := 0, locals := 25 } (va_Pc [Value.ref m, Value.int (iI a1)] (rwW g τ w)) (rwQ g (MZ w (kSv a1) (Q 10 0) (MW τ m Q n B (updZ V a1.toNat 1) (upB K a1.toNat Q) t S 0) (MW τ m Q n B V K t S (kSv a1))) (inW w)) 0 0 (inW w) := by
  obtain ⟨ma, M, T, D, P, hI, ⟨rfl, h0, rfl, rfl⟩, rfl⟩ := hw
  refine rwfr (c_X10_save l g τ ma M Q hI.1 a1 ra1 K V) (pe9_0156 _ _ _ _ _ _ _ _ _) (fun v w1 hz => ?_) (fun v w1 hz => ?_)
  · obtain ⟨M2, -, -, ⟨-, -, -, rfl⟩ | ⟨-, -, -, rfl⟩⟩ := hz <;> rfl
  · obtain ⟨M2, h5, h9, ⟨c, hv, h1, rfl⟩ | ⟨c, hv, h1, rfl⟩⟩ := hz
    · have hk1 : kSv a1 = 1 := if_neg (by omega)
      have hne : ¬ kSv a1 = 0 := by rw [hk1]; decide
      exact ⟨MWl τ ma M2 Q T D B K V S P, (pe9_0156 _ _ _ _ _ _ _ _ _).symm, ⟨0, hv, fun z => absurd z hne⟩, rfl, fun z => absurd z hne, fun _ => MW_of hI rfl (h1.trans hk1.symm) h5 h9⟩
    · have hk0 : kSv a1 = 0 := if_pos (by omega)
      exact ⟨MWl τ ma M2 Q T D B (upB K a1.toNat Q) (updZ V a1.toNat 1) S P, (pe9_0156 _ _ _ _ _ _ _ _ _).symm, ⟨_, hv, fun _ => rfl⟩, rfl, fun _ => MW_of (hI.sav a1.toNat) rfl h1 h5 h9, fun z => absurd hk0 z⟩

set_option maxRecDepth 100000 in
theorem h_restore (l : Launch) (g : va_G) (τ : Nat → ClassId) {m : Nat} {Q : Nat → Nat → Int} {n : Int} {B : Nat → Nat → Nat → Int} {V : Nat → Int} {K : Nat → Nat → Nat → Int} {t : Int} {S : Nat → Int} {k0 : Int} {w : va_W} (hw : MW τ m Q n B V K t S k0 w) (a1 : Int) (ra1 : -2147483648 ≤ a1 ∧ a1 < 2147483648) : Met l yX10_restore wsX10_restore { frames := 1, cells := 0, slots := 0, locals := 25 } (va_Pc [Value.ref m, Value.int (iI a1)] (rwW g τ w)) (rwQ g (MZ w (kRs a1 V) (K a1.toNat 10 0) (MW τ m (K a1.toNat) 0 B V K t S 0) (MW τ m Q n B V K t S (kRs a1 V))) (inW w)) 0 0 (inW w) := by
  obtain ⟨ma, M, T, D, P, hI, ⟨rfl, h0, rfl, rfl⟩, rfl⟩ := hw
  have hik : ∀ j, 0 ≤ V j ∧ V j ≤ 1 := fun j => by have := hI.2.2.2.2.2.1 j; omega
  refine rwfr (c_X10_restore l g τ ma M Q hI.1 a1 ra1 K V hik) (pe9_0156 _ _ _ _ _ _ _ _ _) (fun v w1 hz => ?_) (fun v w1 hz => ?_)
  · obtain ⟨M2, -, ⟨-, -, -, -, rfl⟩ | ⟨-, -, -, -, -, rfl⟩ | ⟨-, -, -, -, -, rfl⟩⟩ := hz <;> rfl
  · obtain ⟨M2, h9, ⟨c, hv, h1, h5, rfl⟩ | ⟨c, c2, hv, h1, h5, rfl⟩ | ⟨c, c2, hv, h1, h5, rfl⟩⟩ := hz
    · have hk1 : kRs a1 V = 1 := if_neg (by omega)
      have hne : ¬ kRs a1 V = 0 := by rw [hk1]; decide
      exact ⟨MWl τ ma M2 Q T D B K V S P, (pe9_0156 _ _ _ _ _ _ _ _ _).symm, ⟨0, hv, fun z => absurd z hne⟩, rfl, fun z => absurd z hne, fun _ => MW_of hI rfl (h1.trans hk1.symm) h5 h9⟩
    · have hk1 : kRs a1 V = 2 := (if_pos (by omega)).trans (if_pos c2)
      have hne : ¬ kRs a1 V = 0 := by rw [hk1]; decide
      exact ⟨MWl τ ma M2 Q T D B K V S P, (pe9_0156 _ _ _ _ _ _ _ _ _).symm, ⟨0, hv, fun z => absurd z hne⟩, rfl, fun z => absurd z hne, fun _ => MW_of hI rfl (h1.trans hk1.symm) h5 h9⟩
    · have hk0 : kRs a1 V = 0 := (if_pos (by omega)).trans (if_neg (by omega))
      exact ⟨MWl τ ma M2 (K a1.toNat) T D B K V S P, (pe9_0156 _ _ _ _ _ _ _ _ _).symm, ⟨_, hv, fun _ => rfl⟩, rfl, fun _ => MW_of (hI.res c2) rfl h1 h5 h9, fun z => absurd hk0 z⟩

set_option maxRecDepth 100000 in
theorem h_clearText (l : Launch) (g : va_G) (τ : Nat → ClassId) {m : Nat} {Q : Nat → Nat → Int} {n : Int} {B : Nat → Nat → Nat → Int} {V : Nat → Int} {K : Nat → Nat → Nat → Int} {t : Int} {S : Nat → Int} {k0 : Int} {w : va_W} (hw : MW τ m Q n B V K t S k0 w)  : Met l yX10_clearText wsX10_clearText { frames := 0, cells := 0, slots := 0, locals := 0 } (va_Pc [Value.ref m] (rwW g τ w)) (rwQ g (MZ w (0) t (MW τ m Q n B V K 0 S 0) (MW τ m Q n B V K t S (0))) (inW w)) 0 0 (inW w) := by
  obtain ⟨ma, M, T, D, P, hI, ⟨rfl, h0, rfl, rfl⟩, rfl⟩ := hw
  refine rwfr (c_X10_clearText l g τ ma M) (pe9_0 _ _ _ _ _ _ _ _ _) (fun v w1 hz => ?_) (fun v w1 hz => ?_)
  · obtain ⟨M2, -, -, -, -, rfl⟩ := hz
    rfl
  · obtain ⟨M2, h1, h5, h9, hv, rfl⟩ := hz
    exact ⟨MWl τ ma M2 Q T D B K V S P, (pe9_0 _ _ _ _ _ _ _ _ _).symm, ⟨_, hv, fun _ => rfl⟩, rfl, fun _ => MW_of hI.clr rfl h1 h5 h9, fun z => absurd rfl z⟩

set_option maxRecDepth 100000 in
theorem h_errorPosition (l : Launch) (g : va_G) (τ : Nat → ClassId) {m : Nat} {Q : Nat → Nat → Int} {n : Int} {B : Nat → Nat → Nat → Int} {V : Nat → Int} {K : Nat → Nat → Nat → Int} {t : Int} {S : Nat → Int} {k0 : Int} {w : va_W} (hw : MW τ m Q n B V K t S k0 w)  : Met l yX10_errorPosition wsX10_errorPosition { frames := 6, cells := 0, slots := 0, locals := 140 } (va_Pc [Value.ref m] (rwW g τ w)) (rwQ g (MZ w (0) (uErr S t) (MW τ m Q n B V K t S 0) (MW τ m Q n B V K t S (0))) (inW w)) 0 0 (inW w) := by
  obtain ⟨ma, M, T, D, P, hI, ⟨rfl, h0, rfl, rfl⟩, rfl⟩ := hw
  refine rwfr (c_X10_errorPosition l g τ ma M S hI.2.2.2.1 D hI.2.2.2.2.1) (pe9_073 _ _ _ _ _ _ _ _ _) (fun v w1 hz => ?_) (fun v w1 hz => ?_)
  · obtain ⟨M2, D2, -, -, -, -, rfl⟩ := hz
    rfl
  · obtain ⟨M2, D2, h1, h5, h9, hv, rfl⟩ := hz
    exact ⟨MWl τ ma M2 Q T D2 B K V S P, (pe9_073 _ _ _ _ _ _ _ _ _).symm, ⟨_, hv, fun _ => rfl⟩, rfl, fun _ => MW_of hI rfl h1 h5 h9, fun z => absurd rfl z⟩
