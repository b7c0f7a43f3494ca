/-! the class's reading and the reference's: the whole text -/
section TZ
variable {S : Nat → Int} {n : Int}
theorem entry_q {X : Nat → Int} {a lf : Int} {D : Nat → Nat → Int} (hS : SB S) (h : RLx X n a 1) (hT : TI X) (hD : SI D) : EN S n (tEntry X S) (uEn S n a 1 lf D) lf (aEnter D (tEntry X S)) ∧ ((tEntry X S) 3 = 0 → a + 1 ≤ (uEn S n a 1 lf D).1) := by
  have hK : RLx (tKind X S) n a 1 := RL_u h (k := 4) (by omega) _
  have tK : TI (tKind X S) := TI_u hT (by omega)
  have e3 := uH_at (S := S) h
  have hn : n ≤ 120 := by have := hT.2.2.1; have := h.1; omega
  by_cases c : uK (uH S n a) = true
  · have c1 := of_decide_eq_true c
    have cl : X 2 < X 0 := by
      by_cases z : X 2 < X 0
      · exact z
      · rw [if_neg z] at e3
        rw [e3] at c1
        exact absurd c1 (by decide)
    rw [if_pos cl] at e3
    have k4 : (tKind X S) 4 = uH S n a := by
      show (if X 2 < X 0 then tAt X S else 32) = _
      rw [if_pos cl, e3]
    have hl : (tKind X S) 2 < (tKind X S) 0 := cl
    have hE : uE a 1 (uK (uH S n a)) = (a + 1, 1) := if_pos ⟨by decide, c⟩
    have hU : uEn S n a 1 lf D = if uH S n a = 100 then uDi S n (a + 1) 1 lf D else if uH S n a = 104 then uHa S n (a + 1) 1 lf D else if uH S n a = 107 then uCr S n (a + 1) 1 lf D else if uH S n a = 114 then uRe S n (a + 1) 1 lf D else uSe S n (a + 1) 1 lf D (if uH S n a = 119 then 0 else 1) := by
      unfold uEn
      rw [hE]
      exact if_neg (by show ¬ (1 : Int) = 0; decide)
    have hp : PI n (a + 1) 1 := ⟨by have := h.2.2.2.1; omega, by have := h.1; have := h.2.1; omega, hn, by decide, by decide⟩
    rw [hU]
    rw [← k4] at c1 ⊢
    rcases c1 with z | z | z | z | z | z
    · have eT : tEntry X S = tReign (tKind X S) S := if_pos z
      rw [eT, z, if_neg (by decide), if_neg (by decide), if_neg (by decide), if_pos rfl]
      exact ⟨reign_q hK tK hl z, fun _ => (uRe_k hp hD).2.1⟩
    · have eT : tEntry X S = tDie (tKind X S) S := by
        unfold tEntry
        rw [if_neg (by omega), if_pos z]
      rw [eT, z, if_pos rfl]
      exact ⟨die_q hK tK hl z, fun _ => (uDi_k hS hp hD).2.1⟩
    · have eT : tEntry X S = tCrack (tKind X S) S := by
        unfold tEntry
        rw [if_neg (by omega), if_neg (by omega), if_pos z]
      rw [eT, z, if_neg (by decide), if_neg (by decide), if_pos rfl]
      exact ⟨crack_q hK tK hl z, fun _ => (uCr_k hp hD).2.1⟩
    · have eT : tEntry X S = tSeal (tKind X S) S := by
        unfold tEntry
        rw [if_neg (by omega), if_neg (by omega), if_neg (by omega), if_pos (Or.inl z)]
      rw [eT, z, if_neg (by decide), if_neg (by decide), if_neg (by decide), if_neg (by decide), if_pos rfl]
      exact ⟨seal_q hK tK hl (Or.inl ⟨z, rfl⟩), fun _ => (uSe_k hp hD).2.1⟩
    · have eT : tEntry X S = tSeal (tKind X S) S := by
        unfold tEntry
        rw [if_neg (by omega), if_neg (by omega), if_neg (by omega), if_pos (Or.inr z)]
      rw [eT, z, if_neg (by decide), if_neg (by decide), if_neg (by decide), if_neg (by decide), if_neg (by decide)]
      exact ⟨seal_q hK tK hl (Or.inr ⟨z, rfl⟩), fun _ => (uSe_k hp hD).2.1⟩
    · have eT : tEntry X S = tHang (tKind X S) S := by
        unfold tEntry
        rw [if_neg (by omega), if_neg (by omega), if_neg (by omega), if_neg (by omega), if_pos z]
      rw [eT, z, if_neg (by decide), if_pos rfl]
      exact ⟨hang_q hK tK hl z, fun _ => (uHa_k hp hD).2.1⟩
  · have hE : uE a 1 (uK (uH S n a)) = (a, 0) := if_neg (fun z => c z.2)
    have hU : uEn S n a 1 lf D = (a, 0, lf, D) := by
      unfold uEn
      rw [hE]
      exact if_pos rfl
    have hk : ¬ ((tKind X S) 4 = 114 ∨ (tKind X S) 4 = 100 ∨ (tKind X S) 4 = 107 ∨ (tKind X S) 4 = 119 ∨ (tKind X S) 4 = 98 ∨ (tKind X S) 4 = 104) := by
      intro z
      have k4 : (tKind X S) 4 = if X 2 < X 0 then tAt X S else 32 := rfl
      by_cases cl : X 2 < X 0
      · rw [if_pos cl] at e3 k4
        rw [k4, ← e3] at z
        exact c (decide_eq_true z)
      · rw [if_neg cl] at k4
        omega
    have eT : tEntry X S = updZ (tKind X S) 3 1 := by
      unfold tEntry
      rw [if_neg (by omega), if_neg (by omega), if_neg (by omega), if_neg (by omega), if_neg (by omega)]
    rw [eT, hU]
    exact ⟨⟨hK.1, hK.2.1, Or.inr ⟨rfl, Or.inl rfl⟩⟩, fun z => by have z2 : (1 : Int) = 0 := z; omega⟩
theorem EQ_enter {R Q : Nat → Nat → Int} (h : EQ R Q) (W : Nat → Int) : EQ2 (aEnter R W) (aEnter Q W) := by
  unfold aEnter
  by_cases c1 : W 4 = 114
  · rw [if_pos c1, if_pos c1]
    exact EQ_reign h _ _
  · rw [if_neg c1, if_neg c1]
    by_cases c2 : W 4 = 100
    · rw [if_pos c2, if_pos c2]
      exact EQ_die h _ _ _
    · rw [if_neg c2, if_neg c2]
      by_cases c3 : W 4 = 107
      · rw [if_pos c3, if_pos c3]
        exact EQ_crack h _ _
      · rw [if_neg c3, if_neg c3]
        by_cases c4 : W 4 = 119
        · rw [if_pos c4, if_pos c4]
          exact EQ_seal h _ _ _ _ _
        · rw [if_neg c4, if_neg c4]
          by_cases c5 : W 4 = 98
          · rw [if_pos c5, if_pos c5]
            exact EQ_seal h _ _ _ _ _
          · rw [if_neg c5, if_neg c5]
            exact EQ_hang h _ _
/-- both have read i entries: the class stands at p, lf are left out, the reference's state is D -/
def ST (X S : Nat → Int) (R : Nat → Nat → Int) (n : Int) (i : Nat) (p lf : Int) (D : Nat → Nat → Int) : Prop := (∀ j, j < i → (tNext (tLoop X S j) S).1 = true) ∧ RLx (tLoop X S i) n p 1 ∧ TI (tLoop X S i) ∧ (i : Int) ≤ p ∧ (eR X S R i).2 = lf ∧ EQ (eR X S R i).1 D ∧ SI D
def SP (S : Nat → Int) (n p s : Int) (i : Nat) : Prop := (i = 0 ∧ p = 0 ∧ s = 0) ∨ (0 < p ∧ p < n ∧ uH S n p = 59 ∧ s = p + 1)
theorem st_next {X : Nat → Int} {p s : Int} {i : Nat} (h : RLx (tLoop X S i) n p 1) (hT : TI (tLoop X S i)) (hs : SP S n p s i) : RLx (tSemi (tLoop X S i) S) n s 1 ∧ TI (tSemi (tLoop X S i) S) ∧ tNext (tLoop X S i) S = (decide ((tEntry (tSemi (tLoop X S i) S) S) 3 = 0), tEntry (tSemi (tLoop X S i) S) S) ∧ p ≤ s ∧ (p < s ∨ i = 0) := by
  have hm : RLx (tSemi (tLoop X S i) S) n s 1 := by
    unfold tSemi
    rcases hs with ⟨-, hp, hs⟩ | ⟨h1, h2, h3, h4⟩
    · rw [if_neg (by have := h.2.1; omega), hs, ← hp]
      exact h
    · rw [if_pos (by have := h.2.1; omega), h4]
      have q := (sgn_q (S := S) (z := 59) h (by omega)).1
      have e : uE p 1 (decide (uH S n p = 59)) = (p + 1, 1) := if_pos ⟨by decide, decide_eq_true h3⟩
      rw [e] at q
      exact q
  refine ⟨hm, tSemi_ok hT, ?_, ?_, ?_⟩
  · have h2 := h.2.1
    have h0 := h.1
    have h3 := hm.2.2.1
    unfold tNext
    rw [if_neg (by rcases hs with ⟨-, hp, -⟩ | ⟨h1, h4, -⟩ <;> omega), if_pos (by omega)]
  · rcases hs with ⟨-, hp, hs⟩ | ⟨h1, h2, h3, h4⟩ <;> omega
  · rcases hs with ⟨hi, hp, hs⟩ | ⟨h1, h2, h3, h4⟩
    · exact Or.inr hi
    · exact Or.inl (by omega)
theorem st_step {X : Nat → Int} {R D : Nat → Nat → Int} {p s lf : Int} {i : Nat} (hS : SB S) (h : ST X S R n i p lf D) (hs : SP S n p s i) : ((uEn S n s 1 lf D).2.1 = 1 ∧ ST X S R n (i + 1) (uEn S n s 1 lf D).1 (uEn S n s 1 lf D).2.2.1 (uEn S n s 1 lf D).2.2.2 ∧ ((uEn S n s 1 lf D).1 = n ∨ uH S n (uEn S n s 1 lf D).1 = 59)) ∨ ((uEn S n s 1 lf D).2.1 = 0 ∧ ∃ k, k < 120 ∧ (∀ j, j < k → (tNext (tLoop X S j) S).1 = true) ∧ (tNext (tLoop X S k) S).1 = false ∧ (tLoop X S (k + 1)) 3 = 1 ∧ (tLoop X S (k + 1)) 2 = (uEn S n s 1 lf D).1) := by
  obtain ⟨h1, h2, h3, h4, h5, h6, h7⟩ := h
  obtain ⟨m1, m2, m3, m4, m5⟩ := st_next h2 h3 hs
  obtain ⟨en, ep⟩ := entry_q (lf := lf) hS m1 m2 h7
  have hk := (uEn_k (S := S) (n := n) (a := s) (g := 1) (lf := lf) (D := D) hS ⟨by have := m1.2.2.2.1; omega, by have := m1.1; have := m1.2.1; have := m2.2.1; omega, by have := m1.1; have := m2.2.2.1; omega, by decide, by decide⟩ h7).1
  have tE := tEntry_ok (S := S) m2
  have e1 : tLoop X S (i + 1) = tEntry (tSemi (tLoop X S i) S) S := by rw [tLoop, m3]
  have n0 := m1.1
  have n2 := m2.2.2.1
  rw [← e1] at en ep tE m3
  have e2 : (eR X S R (i + 1)) = ((aEnter (eR X S R i).1 (tLoop X S (i + 1))).2, (eR X S R i).2 + (if (aEnter (eR X S R i).1 (tLoop X S (i + 1))).1 < 0 then 1 else 0)) := rfl
  have hq := EQ_enter h6 (tLoop X S (i + 1))
  generalize uEn S n s 1 lf D = r at en ep hk ⊢
  obtain ⟨y0, y2, yc⟩ := en
  have hi : i < 120 := by
    rcases hs with ⟨hi, -, -⟩ | ⟨-, q2, -, -⟩
    · omega
    · omega
  rcases yc with ⟨g1, g2, g3, g4, g5⟩ | ⟨g1, g2⟩
  · refine Or.inl ⟨g1, ⟨fun j hj => ?_, ⟨y0, y2, by omega, hk.1.1, Or.inr rfl⟩, tE, ?_, ?_, ?_, hk.2.2.2⟩, g3⟩
    · by_cases c : j = i
      · subst c
        rw [m3]
        exact decide_eq_true g2
      · exact h1 j (by omega)
    · have := ep g2
      omega
    · rw [e2, g4]
      show (eR X S R i).2 + (if (aEnter (eR X S R i).1 (tLoop X S (i + 1))).1 < 0 then 1 else 0) = _
      rw [h5, hq.1]
    · rw [e2, g5]
      exact hq.2
  · refine Or.inr ⟨g1, ?_⟩
    rcases g2 with g2 | ⟨g2, g3, g4⟩
    · refine ⟨i, hi, h1, ?_, g2, y2⟩
      rw [m3]
      exact decide_eq_false (by omega)
    · have hp1 := ep g2
      have hx : RLx (tLoop X S (i + 1)) n r.1 1 := ⟨y0, y2, by omega, hk.1.1, Or.inr rfl⟩
      have q := (sgn_q (S := S) (z := 59) hx (by omega)).1
      have e : uE r.1 1 (decide (uH S n r.1 = 59)) = (r.1, 0) := if_neg (fun z => g4 (of_decide_eq_true z.2))
      rw [e] at q
      have es : tSemi (tLoop X S (i + 1)) S = tSgn (tLoop X S (i + 1)) S 59 := if_pos (by omega)
      have en2 : tNext (tLoop X S (i + 1)) S = (false, tSgn (tLoop X S (i + 1)) S 59) := by
        have q3 := q.2.2.1
        unfold tNext
        rw [if_neg (by omega), es, if_neg (by omega)]
      refine ⟨i + 1, by omega, fun j hj => ?_, by rw [en2], ?_, ?_⟩
      · by_cases c : j = i
        · subst c
          rw [m3]
          exact decide_eq_true g2
        · exact h1 j (by omega)
      · rw [tLoop, en2]
        have q3 := q.2.2.1
        show (tSgn (tLoop X S (i + 1)) S 59) 3 = 1
        omega
      · rw [tLoop, en2]
        exact q.2.1
theorem tx_bad {X : Nat → Int} {k : Nat} {e : Int} (hk : k < 120) (h1 : ∀ j, j < k → (tNext (tLoop X S j) S).1 = true) (h2 : (tNext (tLoop X S k) S).1 = false) (h3 : (tLoop X S (k + 1)) 3 = 1) (h4 : (tLoop X S (k + 1)) 2 = e) : tErr X S = e := by
  have hc : tCnt X S = k := fst_some (fun j hj => by rw [h1 j hj]; rfl) (by rw [h2]; rfl) hk
  have ha : tAll X S = tLoop X S (k + 1) := by
    rw [tAll, hc, if_pos hk]
    rfl
  rw [tErr, ha, if_neg (by omega), h4]
/-- what the texts come to -/
def TXC (X S : Nat → Int) (R : Nat → Nat → Int) (n : Int) : Prop := tErr X S = uErr S n ∧ (uErr S n = -1 → (eR X S R (tCnt X S)).2 = (uAll S n).2.2.1 ∧ EQ (eR X S R (tCnt X S)).1 (uAll S n).2.2.2)
theorem tx_go {X : Nat → Int} {R : Nat → Nat → Int} (hS : SB S) (hn : n ≤ 120) : ∀ (d i : Nat) (p s lf : Int) (D : Nat → Nat → Int), i + d = 122 → ST X S R n i p lf D → SP S n p s i → uLp S n i = uEn S n s 1 lf D → TXC X S R n
  | d, i, p, s, lf, D, hd, h, hs, hu => by
    have st := st_step hS h hs
    rw [← hu] at st
    rcases st with ⟨g1, g2, g3⟩ | ⟨g1, k, k1, k2, k3, k4, k5⟩
    · obtain ⟨a1, a2, a3, a4, a5, a6, a7⟩ := id g2
      by_cases c : (uLp S n i).1 = n
      · have hL : uLg n (uLp S n i) = false := decide_eq_false (fun z => by have := z.2; omega)
        have hA : uAll S n = uLp S n i := uLp_stop hL 122 (by omega)
        have b0 := a2.1
        have b2 := a2.2.1
        have b3 := a2.2.2.1
        have en : tNext (tLoop X S (i + 1)) S = (false, tLoop X S (i + 1)) := if_pos ⟨by omega, by omega⟩
        have hc : tCnt X S = i + 1 := by
          by_cases z : i + 1 < 120
          · exact fst_some (fun j hj => by rw [a1 j hj]; rfl) (by rw [en]; rfl) z
          · have z2 : i + 1 = 120 := by omega
            have q : tCnt X S = 120 := fst_none (fun j hj => by rw [a1 j (by omega)]; rfl)
            omega
        have ha : tAll X S = tLoop X S (i + 1) := by
          unfold tAll
          rw [hc]
          by_cases z : i + 1 < 120
          · rw [if_pos z, en]
          · rw [if_neg z, show i + 1 = 120 from by omega]
        have hE : uErr S n = -1 := by
          unfold uErr
          rw [hA, if_neg (by omega)]
        refine ⟨?_, fun _ => ?_⟩
        · rw [hE, tErr, ha, if_pos (by omega)]
        · rw [hc, hA]
          exact ⟨a5, a6⟩
      · have c59 : uH S n (uLp S n i).1 = 59 := by
          rcases g3 with g3 | g3
          · exact absurd g3 c
          · exact g3
        have hlt : (uLp S n i).1 < n := by
          have b0 := a2.1
          have b2 := a2.2.1
          have := a3.2.1
          omega
        have hL : uLg n (uLp S n i) = true := decide_eq_true ⟨by omega, hlt⟩
        have hE : uE (uLp S n i).1 1 (decide (uH S n (uLp S n i).1 = 59)) = ((uLp S n i).1 + 1, 1) := if_pos ⟨by decide, decide_eq_true c59⟩
        have hN : uLp S n (i + 1) = uEn S n ((uLp S n i).1 + 1) 1 (uLp S n i).2.2.1 (uLp S n i).2.2.2 := by
          rw [uLp, if_pos hL]
          unfold uLs
          rw [g1, hE]
        cases d with
        | zero => omega
        | succ d => exact tx_go hS hn d (i + 1) _ _ _ _ (by omega) g2 (Or.inr ⟨by omega, hlt, c59, rfl⟩) hN
    · have hL : uLg n (uLp S n i) = false := decide_eq_false (fun z => z.1 g1)
      have hi : i ≤ 122 := by omega
      have hA : uAll S n = uLp S n i := uLp_stop hL 122 hi
      have hE : uErr S n = (uLp S n i).1 := by
        unfold uErr
        rw [hA, if_pos g1]
      have hT := tx_bad k1 k2 k3 k4 k5
      refine ⟨by rw [hT, hE], fun z => ?_⟩
      have hok := (uLp_k (S := S) (n := n) hS (by have := h.2.1.1; have := h.2.2.1.1; have := h.2.2.1.2.1; omega) i).1.1
      omega
/-- the class and the reference read a text alike -/
theorem tx_eq {X : Nat → Int} {R : Nat → Nat → Int} (hS : SB S) (hL : TL X) (hn : X 0 = n) (hR : EQ R R0z) : TXC X S R n := by
  have h1 := hL.1
  have h2 := hL.2.1
  refine tx_go (R := R) hS (by omega) 122 0 0 0 0 R0z rfl ⟨fun j hj => by omega, ⟨hn, rfl, rfl, by omega, Or.inr rfl⟩, TI_0 hL, by omega, rfl, hR, SI_z⟩ (Or.inl ⟨rfl, rfl, rfl⟩) rfl
end TZ
