/-! the law's statics, in the reference's numbers -/
theorem kx1_ne {E1 E : String} {k : Int} (h : kx1 E1 k E) : ¬ k = 0 := by have := h.1; omega
theorem kx2_ne {E1 E2 E : String} {k : Int} (h : kx2 E1 E2 k E) : ¬ k = 0 := by rcases h with h | h <;> (have := h.1; omega)
theorem pPoss_b {R : Nat → Nat → Int} {s y : Int} (h : (pPoss R s y).1 = 0) : ∃ b : Bool, (pPoss R s y).2 = zB b := by
  unfold pPoss at h ⊢
  by_cases c1 : ¬ (0 ≤ s ∧ s ≤ R 10 0 - 1)
  · rw [if_pos c1] at h
    exact absurd h (by decide)
  · rw [if_neg c1] at h ⊢
    by_cases c2 : ¬ (1000 ≤ y ∧ y ≤ 1999)
    · rw [if_pos c2] at h
      exact absurd h (by decide)
    · rw [if_neg c2]
      exact ⟨_, rfl⟩
def vCr (Q : Nat → Nat → Int) (d y : Int) : Int := rFks (aCrack Q d y).2 (Q 10 0).toNat - rFks Q (Q 10 0).toNat
theorem aCr_ten (R : Nat → Nat → Int) (d y : Int) : (aCrack R d y).2 10 0 = R 10 0 := by
  unfold aCrack
  split
  · rfl
  · split
    · rfl
    · split
      · rfl
      · rfl
theorem vCr_q {R Q : Nat → Nat → Int} (e : EQ R Q) (hR : SI R) (d y : Int) : rFks (aCrack R d y).2 (R 10 0).toNat - rFks R (R 10 0).toNat = vCr Q d y := by
  have h1 := rFks_q (EQ_crack e d y).2 (SI_aCrack hR d y)
  rw [aCr_ten, aCr_ten] at h1
  have h2 := rFks_q e hR
  unfold vCr
  rw [h1, h2]
def kLb (z k : Int) : Int := if (0 ≤ z ∧ z ≤ 1) ∧ 0 ≤ k then 0 else 1
def kRn (k z : Int) : Int := if (1 ≤ k ∧ k ≤ 3) ∧ 0 ≤ z ∧ z ≤ 10 ^ (6 * k.toNat) - 1 then 0 else 1
def kSm (k : Int) : Int := if 1 ≤ k ∧ k ≤ 60 then 0 else 1
set_option maxRecDepth 100000 in
theorem f_append (l : Launch) (hst : l.stackTraces = false) (g : va_G) (τ : Nat → ClassId) (x oa : Nat) (z0 : Int64) {Q : Nat → Nat → Int} {n : Int} {B : Nat → Nat → Nat → Int} {V : Nat → Int} {K : Nat → Nat → Nat → Int} {t : Int} {S : Nat → Int} {w : va_W} (hw : CW τ x Q n B V K t S w) (a1 : Int) (ra1 : -2147483648 ≤ a1 ∧ a1 < 2147483648) : ∃ w0, w.Perm w0 ∧ qMet l yL_append wsL_append { frames := 8, cells := 1, slots := 6, locals := 131 } g τ [Value.ref x, Value.int (iI a1), Value.ref oa] ([outC oa z0 τ] ++ w0) (SO (kAp a1 t) (t + 1) (W3 (kAp a1 t) (Wn w0 (kAp a1 t) (CW τ x Q n B V K (t + 1) (updZ S t.toNat a1)) (CW τ x Q n B V K t S))) oa τ) := by
  obtain ⟨sl, sv, ta, aj, me, ad, bd, R, T, J, o, X, VV, WW, hC, hp⟩ := hw
  have hR := hC.1.1
  have hQ := hC.1.2.1
  have e := hC.1.2.2
  have h := cap (sl := sl) (sv := sv) (ta := ta) (aj := aj) (me := me) (ad := ad) (bd := bd) (R := R) (T := T) (J := J) (n := n) (o := o) (X := X) (S := S) (V := V) (VV := VV) (WW := WW) hC (c_X9_append l hst g τ x sl sv ta aj me ad bd X S hC.2.2.2.1 hC.2.2.1.1 a1 ra1)
  exact ⟨_, hp, (c_L_append l g τ x oa z0 _ _ _ a1 _ rfl h (fun v w1 h => h.2.2.1) (fun E w1 h => h.2.1) (fun E w1 h => h.1.elim (fun z => Or.inl z.2) (fun z => Or.inr z.2)) (fun v w1 h => ⟨_, h.2.1⟩)).mono (fun v w1 h => so2 (by decide) h)⟩

set_option maxRecDepth 100000 in
theorem f_load (l : Launch) (hst : l.stackTraces = false) (g : va_G) (τ : Nat → ClassId) (x oa : Nat) (z0 : Int64) {Q : Nat → Nat → Int} {n : Int} {B : Nat → Nat → Nat → Int} {V : Nat → Int} {K : Nat → Nat → Nat → Int} {t : Int} {S : Nat → Int} {w : va_W} (hw : CW τ x Q n B V K t S w)  : ∃ w0, w.Perm w0 ∧ qMet l yL_load wsL_load { frames := 8, cells := 1, slots := 6, locals := 169 } g τ [Value.ref x, Value.ref oa] ([outC oa z0 τ] ++ w0) (SO (kLd S t) (uAll S t).2.2.1 (W3 (kLd S t) (Wn w0 (kLd S t) (CW τ x (uAll S t).2.2.2 0 B (updZ (updZ V 0 0) 1 0) K t S) (CW τ x Q n B V K t S))) oa τ) := by
  obtain ⟨sl, sv, ta, aj, me, ad, bd, R, T, J, o, X, VV, WW, hC, hp⟩ := hw
  have hR := hC.1.1
  have hQ := hC.1.2.1
  have e := hC.1.2.2
  have h := cld (sl := sl) (sv := sv) (ta := ta) (aj := aj) (me := me) (ad := ad) (bd := bd) (R := R) (T := T) (J := J) (n := n) (o := o) (X := X) (S := S) (V := V) (VV := VV) (WW := WW) hC (c_X9_load l hst g τ x sl sv ta aj me ad bd R n o (adF VV 14) X S hC.2.2.2.1 hC.2.2.1.1 V hR hC.2.2.1.2.1)
  exact ⟨_, hp, (c_L_load l g τ x oa z0 _ _ _  _ rfl h (fun v w1 h => h.2.2.1) (fun E w1 h => h.2.1) (fun E w1 h => h.1.2) (fun v w1 h => ⟨_, h.2.1⟩)).mono (fun v w1 h => so1 h)⟩

set_option maxRecDepth 100000 in
theorem f_about (l : Launch) (hst : l.stackTraces = false) (g : va_G) (τ : Nat → ClassId) (x oa : Nat) (z0 : Int64) {Q : Nat → Nat → Int} {n : Int} {B : Nat → Nat → Nat → Int} {V : Nat → Int} {K : Nat → Nat → Nat → Int} {t : Int} {S : Nat → Int} {w : va_W} (hw : CW τ x Q n B V K t S w) (a1 : Int) (ra1 : -2147483648 ≤ a1 ∧ a1 < 2147483648) : ∃ w0, w.Perm w0 ∧ qMet l yL_about wsL_about { frames := 8, cells := 1, slots := 6, locals := 131 } g τ [Value.ref x, Value.int (iI a1), Value.ref oa] ([outC oa z0 τ] ++ w0) (SO ((pAbout Q a1).1) (pAbout Q a1).2 (W3 ((pAbout Q a1).1) (Wn w0 ((pAbout Q a1).1) (CW τ x Q n B V K t S) (CW τ x Q n B V K t S))) oa τ) := by
  obtain ⟨sl, sv, ta, aj, me, ad, bd, R, T, J, o, X, VV, WW, hC, hp⟩ := hw
  have hR := hC.1.1
  have hQ := hC.1.2.1
  have e := hC.1.2.2
  have hc := c_X9_about l hst g τ x sl sv ta aj me ad bd R hR J hC.2.1.1 hC.2.1.2 a1 ra1
  rw [pAbout_q e hR a1] at hc
  have h := cq_sj (sl := sl) (sv := sv) (ta := ta) (aj := aj) (me := me) (ad := ad) (bd := bd) (R := R) (T := T) (J := J) (n := n) (o := o) (X := X) (S := S) (V := V) (VV := VV) (WW := WW) (k := (pAbout Q a1).1) (val := (pAbout Q a1).2) (kf := kx1 nIA ((pAbout Q a1).1)) hC hc (fun v w1 h => h) (fun E w1 h => ⟨⟨h.1, kx1_ne h.1⟩, J, hC.2.1.1, hC.2.1.2, h.2⟩)
  exact ⟨_, hp, (c_L_about l g τ x oa z0 _ _ _ a1 _ rfl h (fun v w1 h => h.2.2.1) (fun E w1 h => h.2.1) (fun E w1 h => h.1.2) (fun v w1 h => ⟨_, h.2.1⟩)).mono (fun v w1 h => so1 h)⟩

set_option maxRecDepth 100000 in
theorem f_ofReign (l : Launch) (hst : l.stackTraces = false) (g : va_G) (τ : Nat → ClassId) (x oa : Nat) (z0 : Int64) {Q : Nat → Nat → Int} {n : Int} {B : Nat → Nat → Nat → Int} {V : Nat → Int} {K : Nat → Nat → Nat → Int} {t : Int} {S : Nat → Int} {w : va_W} (hw : CW τ x Q n B V K t S w) (a1 : Int) (ra1 : -2147483648 ≤ a1 ∧ a1 < 2147483648) (a2 : Int) (ra2 : -2147483648 ≤ a2 ∧ a2 < 2147483648) : ∃ w0, w.Perm w0 ∧ qMet l yL_ofReign wsL_ofReign { frames := 8, cells := 1, slots := 6, locals := 132 } g τ [Value.ref x, Value.int (iI a1), Value.int (iI a2), Value.ref oa] ([outC oa z0 τ] ++ w0) (SO ((pReign Q a1 a2).1) (pReign Q a1 a2).2 (W3 ((pReign Q a1 a2).1) (Wn w0 ((pReign Q a1 a2).1) (CW τ x Q n B V K t S) (CW τ x Q n B V K t S))) oa τ) := by
  obtain ⟨sl, sv, ta, aj, me, ad, bd, R, T, J, o, X, VV, WW, hC, hp⟩ := hw
  have hR := hC.1.1
  have hQ := hC.1.2.1
  have e := hC.1.2.2
  have hc := c_X9_ofReign l hst g τ x sl sv ta aj me ad bd R hR a1 ra1 a2 ra2
  rw [pReign_q e a1 a2] at hc
  have h := cq_s (sl := sl) (sv := sv) (ta := ta) (aj := aj) (me := me) (ad := ad) (bd := bd) (R := R) (T := T) (J := J) (n := n) (o := o) (X := X) (S := S) (V := V) (VV := VV) (WW := WW) (k := (pReign Q a1 a2).1) (val := (pReign Q a1 a2).2) (kf := kx2 nIO nIA ((pReign Q a1 a2).1)) hC hc (fun v w1 h => h) (fun E w1 h => ⟨⟨h.1, kx2_ne h.1⟩, h.2⟩)
  exact ⟨_, hp, (c_L_ofReign l g τ x oa z0 _ _ _ a1 a2 _ rfl h (fun v w1 h => h.2.2.1) (fun E w1 h => h.2.1) (fun E w1 h => h.1.elim (fun z => Or.inl z.2) (fun z => Or.inr z.2)) (fun v w1 h => ⟨_, h.2.1⟩)).mono (fun v w1 h => so2 (by decide) h)⟩

set_option maxRecDepth 100000 in
theorem f_ofDie (l : Launch) (hst : l.stackTraces = false) (g : va_G) (τ : Nat → ClassId) (x oa : Nat) (z0 : Int64) {Q : Nat → Nat → Int} {n : Int} {B : Nat → Nat → Nat → Int} {V : Nat → Int} {K : Nat → Nat → Nat → Int} {t : Int} {S : Nat → Int} {w : va_W} (hw : CW τ x Q n B V K t S w) (a1 : Int) (ra1 : -2147483648 ≤ a1 ∧ a1 < 2147483648) (a2 : Int) (ra2 : -2147483648 ≤ a2 ∧ a2 < 2147483648) : ∃ w0, w.Perm w0 ∧ qMet l yL_ofDie wsL_ofDie { frames := 8, cells := 1, slots := 6, locals := 132 } g τ [Value.ref x, Value.int (iI a1), Value.int (iI a2), Value.ref oa] ([outC oa z0 τ] ++ w0) (SO ((pDie Q a1 a2).1) (pDie Q a1 a2).2 (W3 ((pDie Q a1 a2).1) (Wn w0 ((pDie Q a1 a2).1) (CW τ x Q n B V K t S) (CW τ x Q n B V K t S))) oa τ) := by
  obtain ⟨sl, sv, ta, aj, me, ad, bd, R, T, J, o, X, VV, WW, hC, hp⟩ := hw
  have hR := hC.1.1
  have hQ := hC.1.2.1
  have e := hC.1.2.2
  have hc := c_X9_ofDie l hst g τ x sl sv ta aj me ad bd R hR J hC.2.1.1 hC.2.1.2 a1 ra1 a2 ra2
  rw [pDie_q e hR a1 a2] at hc
  have h := cq_sj (sl := sl) (sv := sv) (ta := ta) (aj := aj) (me := me) (ad := ad) (bd := bd) (R := R) (T := T) (J := J) (n := n) (o := o) (X := X) (S := S) (V := V) (VV := VV) (WW := WW) (k := (pDie Q a1 a2).1) (val := (pDie Q a1 a2).2) (kf := kx2 nIO nIA ((pDie Q a1 a2).1)) hC hc (fun v w1 h => h) (fun E w1 h => ⟨⟨h.1, kx2_ne h.1⟩, J, hC.2.1.1, hC.2.1.2, h.2⟩)
  exact ⟨_, hp, (c_L_ofDie l g τ x oa z0 _ _ _ a1 a2 _ rfl h (fun v w1 h => h.2.2.1) (fun E w1 h => h.2.1) (fun E w1 h => h.1.elim (fun z => Or.inl z.2) (fun z => Or.inr z.2)) (fun v w1 h => ⟨_, h.2.1⟩)).mono (fun v w1 h => so2 (by decide) h)⟩

set_option maxRecDepth 100000 in
theorem f_crackYear (l : Launch) (hst : l.stackTraces = false) (g : va_G) (τ : Nat → ClassId) (x oa : Nat) (z0 : Int64) {Q : Nat → Nat → Int} {n : Int} {B : Nat → Nat → Nat → Int} {V : Nat → Int} {K : Nat → Nat → Nat → Int} {t : Int} {S : Nat → Int} {w : va_W} (hw : CW τ x Q n B V K t S w) (a1 : Int) (ra1 : -2147483648 ≤ a1 ∧ a1 < 2147483648) (a2 : Int) (ra2 : -2147483648 ≤ a2 ∧ a2 < 2147483648) : ∃ w0, w.Perm w0 ∧ qMet l yL_crackYear wsL_crackYear { frames := 8, cells := 1, slots := 6, locals := 132 } g τ [Value.ref x, Value.int (iI a1), Value.int (iI a2), Value.ref oa] ([outC oa z0 τ] ++ w0) (SO ((pCrack Q a1 a2).1) (pCrack Q a1 a2).2 (W3 ((pCrack Q a1 a2).1) (Wn w0 ((pCrack Q a1 a2).1) (CW τ x Q n B V K t S) (CW τ x Q n B V K t S))) oa τ) := by
  obtain ⟨sl, sv, ta, aj, me, ad, bd, R, T, J, o, X, VV, WW, hC, hp⟩ := hw
  have hR := hC.1.1
  have hQ := hC.1.2.1
  have e := hC.1.2.2
  have hc := c_X9_crackYear l hst g τ x sl sv ta aj me ad bd R hR a1 ra1 a2 ra2
  rw [pCrack_q e a1 a2] at hc
  have h := cq_s (sl := sl) (sv := sv) (ta := ta) (aj := aj) (me := me) (ad := ad) (bd := bd) (R := R) (T := T) (J := J) (n := n) (o := o) (X := X) (S := S) (V := V) (VV := VV) (WW := WW) (k := (pCrack Q a1 a2).1) (val := (pCrack Q a1 a2).2) (kf := kx1 nIO ((pCrack Q a1 a2).1)) hC hc (fun v w1 h => h) (fun E w1 h => ⟨⟨h.1, kx1_ne h.1⟩, h.2⟩)
  exact ⟨_, hp, (c_L_crackYear l g τ x oa z0 _ _ _ a1 a2 _ rfl h (fun v w1 h => h.2.2.1) (fun E w1 h => h.2.1) (fun E w1 h => h.1.2) (fun v w1 h => ⟨_, h.2.1⟩)).mono (fun v w1 h => so1 h)⟩

set_option maxRecDepth 100000 in
theorem f_ofSeal (l : Launch) (hst : l.stackTraces = false) (g : va_G) (τ : Nat → ClassId) (x oa : Nat) (z0 : Int64) {Q : Nat → Nat → Int} {n : Int} {B : Nat → Nat → Nat → Int} {V : Nat → Int} {K : Nat → Nat → Nat → Int} {t : Int} {S : Nat → Int} {w : va_W} (hw : CW τ x Q n B V K t S w) (a1 : Int) (ra1 : -2147483648 ≤ a1 ∧ a1 < 2147483648) (a2 : Int) (ra2 : -2147483648 ≤ a2 ∧ a2 < 2147483648) : ∃ w0, w.Perm w0 ∧ qMet l yL_ofSeal wsL_ofSeal { frames := 8, cells := 1, slots := 6, locals := 132 } g τ [Value.ref x, Value.int (iI a1), Value.int (iI a2), Value.ref oa] ([outC oa z0 τ] ++ w0) (SO ((pSeal Q a1 a2).1) (pSeal Q a1 a2).2 (W3 ((pSeal Q a1 a2).1) (Wn w0 ((pSeal Q a1 a2).1) (CW τ x Q n B V K t S) (CW τ x Q n B V K t S))) oa τ) := by
  obtain ⟨sl, sv, ta, aj, me, ad, bd, R, T, J, o, X, VV, WW, hC, hp⟩ := hw
  have hR := hC.1.1
  have hQ := hC.1.2.1
  have e := hC.1.2.2
  have hc := c_X9_ofSeal l hst g τ x sl sv ta aj me ad bd R hR a1 ra1 a2 ra2
  rw [pSeal_q e a1 a2] at hc
  have h := cq_s (sl := sl) (sv := sv) (ta := ta) (aj := aj) (me := me) (ad := ad) (bd := bd) (R := R) (T := T) (J := J) (n := n) (o := o) (X := X) (S := S) (V := V) (VV := VV) (WW := WW) (k := (pSeal Q a1 a2).1) (val := (pSeal Q a1 a2).2) (kf := kx2 nIO nIA ((pSeal Q a1 a2).1)) hC hc (fun v w1 h => h) (fun E w1 h => ⟨⟨h.1, kx2_ne h.1⟩, h.2⟩)
  exact ⟨_, hp, (c_L_ofSeal l g τ x oa z0 _ _ _ a1 a2 _ rfl h (fun v w1 h => h.2.2.1) (fun E w1 h => h.2.1) (fun E w1 h => h.1.elim (fun z => Or.inl z.2) (fun z => Or.inr z.2)) (fun v w1 h => ⟨_, h.2.1⟩)).mono (fun v w1 h => so2 (by decide) h)⟩

set_option maxRecDepth 100000 in
theorem f_dated (l : Launch) (hst : l.stackTraces = false) (g : va_G) (τ : Nat → ClassId) (x oa : Nat) (z0 : Int64) {Q : Nat → Nat → Int} {n : Int} {B : Nat → Nat → Nat → Int} {V : Nat → Int} {K : Nat → Nat → Nat → Int} {t : Int} {S : Nat → Int} {w : va_W} (hw : CW τ x Q n B V K t S w) (a1 : Int) (ra1 : -2147483648 ≤ a1 ∧ a1 < 2147483648) (a2 : Int) (ra2 : -2147483648 ≤ a2 ∧ a2 < 2147483648) : ∃ w0, w.Perm w0 ∧ qMet l yL_dated wsL_dated { frames := 8, cells := 1, slots := 6, locals := 132 } g τ [Value.ref x, Value.int (iI a1), Value.int (iI a2), Value.ref oa] ([outC oa z0 τ] ++ w0) (SO ((pDated Q a1 a2).1) (pDated Q a1 a2).2 (W3 ((pDated Q a1 a2).1) (Wn w0 ((pDated Q a1 a2).1) (CW τ x Q n B V K t S) (CW τ x Q n B V K t S))) oa τ) := by
  obtain ⟨sl, sv, ta, aj, me, ad, bd, R, T, J, o, X, VV, WW, hC, hp⟩ := hw
  have hR := hC.1.1
  have hQ := hC.1.2.1
  have e := hC.1.2.2
  have hc := c_X9_dated l hst g τ x sl sv ta aj me ad bd R hR J hC.2.1.1 hC.2.1.2 a1 ra1 a2 ra2
  rw [pDated_q e hR a1 a2] at hc
  have h := cq_sj (sl := sl) (sv := sv) (ta := ta) (aj := aj) (me := me) (ad := ad) (bd := bd) (R := R) (T := T) (J := J) (n := n) (o := o) (X := X) (S := S) (V := V) (VV := VV) (WW := WW) (k := (pDated Q a1 a2).1) (val := (pDated Q a1 a2).2) (kf := kx2 nIO nIA ((pDated Q a1 a2).1)) hC hc (fun v w1 h => h) (fun E w1 h => ⟨⟨h.1, kx2_ne h.1⟩, J, hC.2.1.1, hC.2.1.2, h.2⟩)
  exact ⟨_, hp, (c_L_dated l g τ x oa z0 _ _ _ a1 a2 _ rfl h (fun v w1 h => h.2.2.1) (fun E w1 h => h.2.1) (fun E w1 h => h.1.elim (fun z => Or.inl z.2) (fun z => Or.inr z.2)) (fun v w1 h => ⟨_, h.2.1⟩)).mono (fun v w1 h => so2 (by decide) h)⟩

set_option maxRecDepth 100000 in
theorem f_isPossible (l : Launch) (hst : l.stackTraces = false) (g : va_G) (τ : Nat → ClassId) (x oa : Nat) (z0 : Int64) {Q : Nat → Nat → Int} {n : Int} {B : Nat → Nat → Nat → Int} {V : Nat → Int} {K : Nat → Nat → Nat → Int} {t : Int} {S : Nat → Int} {w : va_W} (hw : CW τ x Q n B V K t S w) (a1 : Int) (ra1 : -2147483648 ≤ a1 ∧ a1 < 2147483648) (a2 : Int) (ra2 : -2147483648 ≤ a2 ∧ a2 < 2147483648) : ∃ w0, w.Perm w0 ∧ qMet l yL_isPossible wsL_isPossible { frames := 8, cells := 1, slots := 6, locals := 132 } g τ [Value.ref x, Value.int (iI a1), Value.int (iI a2), Value.ref oa] ([outC oa z0 τ] ++ w0) (SO ((pPoss Q a1 a2).1) (pPoss Q a1 a2).2 (W3 ((pPoss Q a1 a2).1) (Wn w0 ((pPoss Q a1 a2).1) (CW τ x Q n B V K t S) (CW τ x Q n B V K t S))) oa τ) := by
  obtain ⟨sl, sv, ta, aj, me, ad, bd, R, T, J, o, X, VV, WW, hC, hp⟩ := hw
  have hR := hC.1.1
  have hQ := hC.1.2.1
  have e := hC.1.2.2
  have hc := c_X9_isPossible l hst g τ x sl sv ta aj me ad bd R hR J hC.2.1.1 hC.2.1.2 a1 ra1 a2 ra2
  rw [pPoss_q e hR a1 a2] at hc
  have h := cq_sj (sl := sl) (sv := sv) (ta := ta) (aj := aj) (me := me) (ad := ad) (bd := bd) (R := R) (T := T) (J := J) (n := n) (o := o) (X := X) (S := S) (V := V) (VV := VV) (WW := WW) (k := (pPoss Q a1 a2).1) (val := (pPoss Q a1 a2).2) (kf := kx2 nIO nIA ((pPoss Q a1 a2).1)) hC hc (fun v w1 h => h) (fun E w1 h => ⟨⟨h.1, kx2_ne h.1⟩, J, hC.2.1.1, hC.2.1.2, h.2⟩)
  exact ⟨_, hp, (c_L_isPossible l g τ x oa z0 _ _ _ a1 a2 _ rfl h (fun v w1 h => h.2.2.1) (fun E w1 h => h.2.1) (fun E w1 h => h.1.elim (fun z => Or.inl z.2) (fun z => Or.inr z.2)) (fun v w1 h => by
    obtain ⟨b, hb⟩ := pPoss_b h.1
    exact ⟨b, by rw [← hb]; exact h.2.1⟩)).mono (fun v w1 h => so2 (by decide) h)⟩

set_option maxRecDepth 100000 in
theorem f_charter (l : Launch) (hst : l.stackTraces = false) (g : va_G) (τ : Nat → ClassId) (x oa : Nat) (z0 : Int64) {Q : Nat → Nat → Int} {n : Int} {B : Nat → Nat → Nat → Int} {V : Nat → Int} {K : Nat → Nat → Nat → Int} {t : Int} {S : Nat → Int} {w : va_W} (hw : CW τ x Q n B V K t S w) (a1 : Int) (ra1 : -2147483648 ≤ a1 ∧ a1 < 2147483648) (a2 : Int) (ra2 : -2147483648 ≤ a2 ∧ a2 < 2147483648) : ∃ w0, w.Perm w0 ∧ qMet l yL_charter wsL_charter { frames := 8, cells := 1, slots := 6, locals := 132 } g τ [Value.ref x, Value.int (iI a1), Value.int (iI a2), Value.ref oa] ([outC oa z0 τ] ++ w0) (SO ((pChart Q a1 a2).1) (pChart Q a1 a2).2 (W3 ((pChart Q a1 a2).1) (Wn w0 ((pChart Q a1 a2).1) (CW τ x Q n B V K t S) (CW τ x Q n B V K t S))) oa τ) := by
  obtain ⟨sl, sv, ta, aj, me, ad, bd, R, T, J, o, X, VV, WW, hC, hp⟩ := hw
  have hR := hC.1.1
  have hQ := hC.1.2.1
  have e := hC.1.2.2
  have hc := c_X9_charter l hst g τ x sl sv ta aj me ad bd R hR J hC.2.1.1 hC.2.1.2 a1 ra1 a2 ra2
  rw [pChart_q e hR a1 a2] at hc
  have h := cq_sj (sl := sl) (sv := sv) (ta := ta) (aj := aj) (me := me) (ad := ad) (bd := bd) (R := R) (T := T) (J := J) (n := n) (o := o) (X := X) (S := S) (V := V) (VV := VV) (WW := WW) (k := (pChart Q a1 a2).1) (val := (pChart Q a1 a2).2) (kf := kx2 nIO nIA ((pChart Q a1 a2).1)) hC hc (fun v w1 h => h) (fun E w1 h => ⟨⟨h.1, kx2_ne h.1⟩, J, hC.2.1.1, hC.2.1.2, h.2⟩)
  exact ⟨_, hp, (c_L_charter l g τ x oa z0 _ _ _ a1 a2 _ rfl h (fun v w1 h => h.2.2.1) (fun E w1 h => h.2.1) (fun E w1 h => h.1.elim (fun z => Or.inl z.2) (fun z => Or.inr z.2)) (fun v w1 h => ⟨_, h.2.1⟩)).mono (fun v w1 h => so2 (by decide) h)⟩

set_option maxRecDepth 100000 in
theorem f_onShelf (l : Launch) (hst : l.stackTraces = false) (g : va_G) (τ : Nat → ClassId) (x oa : Nat) (z0 : Int64) {Q : Nat → Nat → Int} {n : Int} {B : Nat → Nat → Nat → Int} {V : Nat → Int} {K : Nat → Nat → Nat → Int} {t : Int} {S : Nat → Int} {w : va_W} (hw : CW τ x Q n B V K t S w) (a1 : Int) (ra1 : -2147483648 ≤ a1 ∧ a1 < 2147483648) (a2 : Int) (ra2 : -2147483648 ≤ a2 ∧ a2 < 2147483648) : ∃ w0, w.Perm w0 ∧ qMet l yL_onShelf wsL_onShelf { frames := 8, cells := 1, slots := 6, locals := 132 } g τ [Value.ref x, Value.int (iI a1), Value.int (iI a2), Value.ref oa] ([outC oa z0 τ] ++ w0) (SO ((pShelf Q a1 a2).1) (pShelf Q a1 a2).2 (W3 ((pShelf Q a1 a2).1) (Wn w0 ((pShelf Q a1 a2).1) (CW τ x Q n B V K t S) (CW τ x Q n B V K t S))) oa τ) := by
  obtain ⟨sl, sv, ta, aj, me, ad, bd, R, T, J, o, X, VV, WW, hC, hp⟩ := hw
  have hR := hC.1.1
  have hQ := hC.1.2.1
  have e := hC.1.2.2
  have hc := c_X9_onShelf l hst g τ x sl sv ta aj me ad bd R hR a1 ra1 a2 ra2
  rw [pShelf_q e a1 a2] at hc
  have h := cq_s (sl := sl) (sv := sv) (ta := ta) (aj := aj) (me := me) (ad := ad) (bd := bd) (R := R) (T := T) (J := J) (n := n) (o := o) (X := X) (S := S) (V := V) (VV := VV) (WW := WW) (k := (pShelf Q a1 a2).1) (val := (pShelf Q a1 a2).2) (kf := kx2 nIO nIA ((pShelf Q a1 a2).1)) hC hc (fun v w1 h => h) (fun E w1 h => ⟨⟨h.1, kx2_ne h.1⟩, h.2⟩)
  exact ⟨_, hp, (c_L_onShelf l g τ x oa z0 _ _ _ a1 a2 _ rfl h (fun v w1 h => h.2.2.1) (fun E w1 h => h.2.1) (fun E w1 h => h.1.elim (fun z => Or.inl z.2) (fun z => Or.inr z.2)) (fun v w1 h => ⟨_, h.2.1⟩)).mono (fun v w1 h => so2 (by decide) h)⟩

set_option maxRecDepth 100000 in
theorem f_reign (l : Launch) (hst : l.stackTraces = false) (g : va_G) (τ : Nat → ClassId) (x oa : Nat) (z0 : Int64) {Q : Nat → Nat → Int} {n : Int} {B : Nat → Nat → Nat → Int} {V : Nat → Int} {K : Nat → Nat → Nat → Int} {t : Int} {S : Nat → Int} {w : va_W} (hw : CW τ x Q n B V K t S w) (a1 : Int) (ra1 : -2147483648 ≤ a1 ∧ a1 < 2147483648) (a2 : Int) (ra2 : -2147483648 ≤ a2 ∧ a2 < 2147483648) : ∃ w0, w.Perm w0 ∧ qMet l yL_reign wsL_reign { frames := 10, cells := 1, slots := 6, locals := 174 } g τ [Value.ref x, Value.int (iI a1), Value.int (iI a2), Value.ref oa] ([outC oa z0 τ] ++ w0) (SO (kA (aReign Q a1 a2).1 0 1 2) (aReign Q a1 a2).1 (W3 (kA (aReign Q a1 a2).1 0 1 2) (Wn w0 (kA (aReign Q a1 a2).1 0 1 2) (CW τ x (aReign Q a1 a2).2 (mN n) (rmB n B Q).2 V K t S) (CW τ x Q n B V K t S))) oa τ) := by
  obtain ⟨sl, sv, ta, aj, me, ad, bd, R, T, J, o, X, VV, WW, hC, hp⟩ := hw
  have hR := hC.1.1
  have hQ := hC.1.2.1
  have e := hC.1.2.2
  have h14 : ((o + n) % 14).toNat < 14 := rg_p hC.2.2.2.2.1.2.1 hC.2.2.2.2.1.1.1
  have h := ca_stm (sl := sl) (sv := sv) (ta := ta) (aj := aj) (me := me) (ad := ad) (bd := bd) (R := R) (T := T) (J := J) (n := n) (o := o) (X := X) (S := S) (V := V) (VV := VV) (WW := WW) (k := kA (aReign Q a1 a2).1 0 1 2) (kf := kx2 nIA nIS (kA (aReign Q a1 a2).1 0 1 2)) hC (c_X9_reign l hst g τ x sl sv ta aj me ad bd R T hR n o (adF VV 14) hC.2.2.2.2.1.1 hC.2.2.2.2.1.2.1 _ (adF_p h14) a1 ra1 a2 ra2) (EQ_reign e a1 a2) ⟨SI_aReign hR a1 a2, SI_aReign hQ a1 a2⟩ (fun h => kA_0 h) (fun E h => kx_012 (nx_reign hQ a1 a2) h)
  exact ⟨_, hp, (c_L_reign l g τ x oa z0 _ _ _ a1 a2 _ rfl h (fun v w1 h => h.2.2.1) (fun E w1 h => h.2.1) (fun E w1 h => h.1.elim (fun z => Or.inl z.2) (fun z => Or.inr z.2)) (fun v w1 h => ⟨_, h.2.1⟩)).mono (fun v w1 h => so2 (by decide) h)⟩

set_option maxRecDepth 100000 in
theorem f_die (l : Launch) (hst : l.stackTraces = false) (g : va_G) (τ : Nat → ClassId) (x oa : Nat) (z0 : Int64) {Q : Nat → Nat → Int} {n : Int} {B : Nat → Nat → Nat → Int} {V : Nat → Int} {K : Nat → Nat → Nat → Int} {t : Int} {S : Nat → Int} {w : va_W} (hw : CW τ x Q n B V K t S w) (a1 : Int) (ra1 : -2147483648 ≤ a1 ∧ a1 < 2147483648) (a2 : Int) (ra2 : -2147483648 ≤ a2 ∧ a2 < 2147483648) (a3 : Int) (ra3 : -2147483648 ≤ a3 ∧ a3 < 2147483648) : ∃ w0, w.Perm w0 ∧ qMet l yL_die wsL_die { frames := 10, cells := 1, slots := 6, locals := 175 } g τ [Value.ref x, Value.int (iI a1), Value.int (iI a2), Value.int (iI a3), Value.ref oa] ([outC oa z0 τ] ++ w0) (SO (kA (aDie Q a1 a2 a3).1 0 1 2) (aDie Q a1 a2 a3).1 (W3 (kA (aDie Q a1 a2 a3).1 0 1 2) (Wn w0 (kA (aDie Q a1 a2 a3).1 0 1 2) (CW τ x (aDie Q a1 a2 a3).2 (mN n) (rmB n B Q).2 V K t S) (CW τ x Q n B V K t S))) oa τ) := by
  obtain ⟨sl, sv, ta, aj, me, ad, bd, R, T, J, o, X, VV, WW, hC, hp⟩ := hw
  have hR := hC.1.1
  have hQ := hC.1.2.1
  have e := hC.1.2.2
  have h14 : ((o + n) % 14).toNat < 14 := rg_p hC.2.2.2.2.1.2.1 hC.2.2.2.2.1.1.1
  have h := ca_stm (sl := sl) (sv := sv) (ta := ta) (aj := aj) (me := me) (ad := ad) (bd := bd) (R := R) (T := T) (J := J) (n := n) (o := o) (X := X) (S := S) (V := V) (VV := VV) (WW := WW) (k := kA (aDie Q a1 a2 a3).1 0 1 2) (kf := kx2 nIA nIS (kA (aDie Q a1 a2 a3).1 0 1 2)) hC (c_X9_die l hst g τ x sl sv ta aj me ad bd R T hR n o (adF VV 14) hC.2.2.2.2.1.1 hC.2.2.2.2.1.2.1 _ (adF_p h14) a1 ra1 a2 ra2 a3 ra3) (EQ_die e a1 a2 a3) ⟨SI_aDie hR a1 a2 a3, SI_aDie hQ a1 a2 a3⟩ (fun h => kA_0 h) (fun E h => kx_012 (nx_die hQ a1 a2 a3) h)
  exact ⟨_, hp, (c_L_die l g τ x oa z0 _ _ _ a1 a2 a3 _ rfl h (fun v w1 h => h.2.2.1) (fun E w1 h => h.2.1) (fun E w1 h => h.1.elim (fun z => Or.inl z.2) (fun z => Or.inr z.2)) (fun v w1 h => ⟨_, h.2.1⟩)).mono (fun v w1 h => so2 (by decide) h)⟩

set_option maxRecDepth 100000 in
theorem f_crack (l : Launch) (hst : l.stackTraces = false) (g : va_G) (τ : Nat → ClassId) (x oa : Nat) (z0 : Int64) {Q : Nat → Nat → Int} {n : Int} {B : Nat → Nat → Nat → Int} {V : Nat → Int} {K : Nat → Nat → Nat → Int} {t : Int} {S : Nat → Int} {w : va_W} (hw : CW τ x Q n B V K t S w) (a1 : Int) (ra1 : -2147483648 ≤ a1 ∧ a1 < 2147483648) (a2 : Int) (ra2 : -2147483648 ≤ a2 ∧ a2 < 2147483648) : ∃ w0, w.Perm w0 ∧ qMet l yL_crack wsL_crack { frames := 10, cells := 1, slots := 6, locals := 174 } g τ [Value.ref x, Value.int (iI a1), Value.int (iI a2), Value.ref oa] ([outC oa z0 τ] ++ w0) (SO (kA (aCrack Q a1 a2).1 1 2 3) (aCrack Q a1 a2).1 (W3 (kA (aCrack Q a1 a2).1 1 2 3) (Wn w0 (kA (aCrack Q a1 a2).1 1 2 3) (CW τ x (aCrack Q a1 a2).2 (mN n) (rmB n B Q).2 V K t S) (CW τ x Q n B V K t S))) oa τ) := by
  obtain ⟨sl, sv, ta, aj, me, ad, bd, R, T, J, o, X, VV, WW, hC, hp⟩ := hw
  have hR := hC.1.1
  have hQ := hC.1.2.1
  have e := hC.1.2.2
  have h14 : ((o + n) % 14).toNat < 14 := rg_p hC.2.2.2.2.1.2.1 hC.2.2.2.2.1.1.1
  have h := ca_stm (sl := sl) (sv := sv) (ta := ta) (aj := aj) (me := me) (ad := ad) (bd := bd) (R := R) (T := T) (J := J) (n := n) (o := o) (X := X) (S := S) (V := V) (VV := VV) (WW := WW) (k := kA (aCrack Q a1 a2).1 1 2 3) (kf := kx3 nIO nIA nIS (kA (aCrack Q a1 a2).1 1 2 3)) hC (c_X9_crack l hst g τ x sl sv ta aj me ad bd R T hR n o (adF VV 14) hC.2.2.2.2.1.1 hC.2.2.2.2.1.2.1 _ (adF_p h14) a1 ra1 a2 ra2) (EQ_crack e a1 a2) ⟨SI_aCrack hR a1 a2, SI_aCrack hQ a1 a2⟩ (fun h => kA_0 h) (fun E h => kx_123 h)
  exact ⟨_, hp, (c_L_crack l g τ x oa z0 _ _ _ a1 a2 _ rfl h (fun v w1 h => h.2.2.1) (fun E w1 h => h.2.1) (fun E w1 h => h.1.elim (fun z => Or.inl z.2) (fun z => z.elim (fun z => Or.inr (Or.inl z.2)) (fun z => Or.inr (Or.inr z.2)))) (fun v w1 h => ⟨_, h.2.1⟩)).mono (fun v w1 h => so3 (by decide) (by decide) (by decide) h)⟩

set_option maxRecDepth 100000 in
theorem f_seal (l : Launch) (hst : l.stackTraces = false) (g : va_G) (τ : Nat → ClassId) (x oa : Nat) (z0 : Int64) {Q : Nat → Nat → Int} {n : Int} {B : Nat → Nat → Nat → Int} {V : Nat → Int} {K : Nat → Nat → Nat → Int} {t : Int} {S : Nat → Int} {w : va_W} (hw : CW τ x Q n B V K t S w) (a1 : Int) (ra1 : -2147483648 ≤ a1 ∧ a1 < 2147483648) (a2 : Int) (ra2 : -2147483648 ≤ a2 ∧ a2 < 2147483648) (a3 : Int) (ra3 : -2147483648 ≤ a3 ∧ a3 < 2147483648) (a4 : Int) (ra4 : -2147483648 ≤ a4 ∧ a4 < 2147483648) (a5 : Int) (ra5 : -2147483648 ≤ a5 ∧ a5 < 2147483648) : ∃ w0, w.Perm w0 ∧ qMet l yL_seal wsL_seal { frames := 10, cells := 1, slots := 6, locals := 177 } g τ [Value.ref x, Value.int (iI a1), Value.int (iI a2), Value.int (iI a3), Value.int (iI a4), Value.int (iI a5), Value.ref oa] ([outC oa z0 τ] ++ w0) (SO (kA (aSeal Q a1 a2 a3 a4 a5).1 1 2 3) (aSeal Q a1 a2 a3 a4 a5).1 (W3 (kA (aSeal Q a1 a2 a3 a4 a5).1 1 2 3) (Wn w0 (kA (aSeal Q a1 a2 a3 a4 a5).1 1 2 3) (CW τ x (aSeal Q a1 a2 a3 a4 a5).2 (mN n) (rmB n B Q).2 V K t S) (CW τ x Q n B V K t S))) oa τ) := by
  obtain ⟨sl, sv, ta, aj, me, ad, bd, R, T, J, o, X, VV, WW, hC, hp⟩ := hw
  have hR := hC.1.1
  have hQ := hC.1.2.1
  have e := hC.1.2.2
  have h14 : ((o + n) % 14).toNat < 14 := rg_p hC.2.2.2.2.1.2.1 hC.2.2.2.2.1.1.1
  have h := ca_stm (sl := sl) (sv := sv) (ta := ta) (aj := aj) (me := me) (ad := ad) (bd := bd) (R := R) (T := T) (J := J) (n := n) (o := o) (X := X) (S := S) (V := V) (VV := VV) (WW := WW) (k := kA (aSeal Q a1 a2 a3 a4 a5).1 1 2 3) (kf := kx3 nIO nIA nIS (kA (aSeal Q a1 a2 a3 a4 a5).1 1 2 3)) hC (c_X9_seal l hst g τ x sl sv ta aj me ad bd R T hR n o (adF VV 14) hC.2.2.2.2.1.1 hC.2.2.2.2.1.2.1 _ (adF_p h14) a1 ra1 a2 ra2 a3 ra3 a4 ra4 a5 ra5) (EQ_seal e a1 a2 a3 a4 a5) ⟨SI_aSeal hR a1 a2 a3 a4 a5, SI_aSeal hQ a1 a2 a3 a4 a5⟩ (fun h => kA_0 h) (fun E h => kx_123 h)
  exact ⟨_, hp, (c_L_seal l g τ x oa z0 _ _ _ a1 a2 a3 a4 a5 _ rfl h (fun v w1 h => h.2.2.1) (fun E w1 h => h.2.1) (fun E w1 h => h.1.elim (fun z => Or.inl z.2) (fun z => z.elim (fun z => Or.inr (Or.inl z.2)) (fun z => Or.inr (Or.inr z.2)))) (fun v w1 h => ⟨_, h.2.1⟩)).mono (fun v w1 h => so3 (by decide) (by decide) (by decide) h)⟩

set_option maxRecDepth 100000 in
theorem f_show (l : Launch) (hst : l.stackTraces = false) (g : va_G) (τ : Nat → ClassId) (x oa : Nat) (z0 : Int64) {Q : Nat → Nat → Int} {n : Int} {B : Nat → Nat → Nat → Int} {V : Nat → Int} {K : Nat → Nat → Nat → Int} {t : Int} {S : Nat → Int} {w : va_W} (hw : CW τ x Q n B V K t S w) (a1 : Int) (ra1 : -2147483648 ≤ a1 ∧ a1 < 2147483648) (a2 : Int) (ra2 : -2147483648 ≤ a2 ∧ a2 < 2147483648) : ∃ w0, w.Perm w0 ∧ qMet l yL_show wsL_show { frames := 10, cells := 1, slots := 6, locals := 174 } g τ [Value.ref x, Value.int (iI a1), Value.int (iI a2), Value.ref oa] ([outC oa z0 τ] ++ w0) (SO (kA (aShow Q a1 a2).1 1 2 0) (aShow Q a1 a2).1 (W3 (kA (aShow Q a1 a2).1 1 2 0) (Wn w0 (kA (aShow Q a1 a2).1 1 2 0) (CW τ x (aShow Q a1 a2).2 (mN n) (rmB n B Q).2 V K t S) (CW τ x Q n B V K t S))) oa τ) := by
  obtain ⟨sl, sv, ta, aj, me, ad, bd, R, T, J, o, X, VV, WW, hC, hp⟩ := hw
  have hR := hC.1.1
  have hQ := hC.1.2.1
  have e := hC.1.2.2
  have h14 : ((o + n) % 14).toNat < 14 := rg_p hC.2.2.2.2.1.2.1 hC.2.2.2.2.1.1.1
  have h := ca_stm (sl := sl) (sv := sv) (ta := ta) (aj := aj) (me := me) (ad := ad) (bd := bd) (R := R) (T := T) (J := J) (n := n) (o := o) (X := X) (S := S) (V := V) (VV := VV) (WW := WW) (k := kA (aShow Q a1 a2).1 1 2 0) (kf := kx2 nIO nIA (kA (aShow Q a1 a2).1 1 2 0)) hC (c_X9_show l hst g τ x sl sv ta aj me ad bd R T hR n o (adF VV 14) hC.2.2.2.2.1.1 hC.2.2.2.2.1.2.1 _ (adF_p h14) a1 ra1 a2 ra2) (EQ_show e hR a1 a2) ⟨SI_aShow hR a1 a2, SI_aShow hQ a1 a2⟩ (fun h => kA_0 h) (fun E h => kx_120 (nx_show hQ a1 a2) h)
  exact ⟨_, hp, (c_L_show l g τ x oa z0 _ _ _ a1 a2 _ rfl h (fun v w1 h => h.2.2.1) (fun E w1 h => h.2.1) (fun E w1 h => h.1.elim (fun z => Or.inl z.2) (fun z => Or.inr z.2)) (fun v w1 h => ⟨_, h.2.1⟩)).mono (fun v w1 h => so2 (by decide) h)⟩

set_option maxRecDepth 100000 in
theorem f_hang (l : Launch) (hst : l.stackTraces = false) (g : va_G) (τ : Nat → ClassId) (x oa : Nat) (z0 : Int64) {Q : Nat → Nat → Int} {n : Int} {B : Nat → Nat → Nat → Int} {V : Nat → Int} {K : Nat → Nat → Nat → Int} {t : Int} {S : Nat → Int} {w : va_W} (hw : CW τ x Q n B V K t S w) (a1 : Int) (ra1 : -2147483648 ≤ a1 ∧ a1 < 2147483648) (a2 : Int) (ra2 : -2147483648 ≤ a2 ∧ a2 < 2147483648) : ∃ w0, w.Perm w0 ∧ qMet l yL_hang wsL_hang { frames := 10, cells := 1, slots := 6, locals := 174 } g τ [Value.ref x, Value.int (iI a1), Value.int (iI a2), Value.ref oa] ([outC oa z0 τ] ++ w0) (SO (kA (aHang Q a1 a2).1 1 0 0) (aHang Q a1 a2).1 (W3 (kA (aHang Q a1 a2).1 1 0 0) (Wn w0 (kA (aHang Q a1 a2).1 1 0 0) (CW τ x (aHang Q a1 a2).2 (mN n) (rmB n B Q).2 V K t S) (CW τ x Q n B V K t S))) oa τ) := by
  obtain ⟨sl, sv, ta, aj, me, ad, bd, R, T, J, o, X, VV, WW, hC, hp⟩ := hw
  have hR := hC.1.1
  have hQ := hC.1.2.1
  have e := hC.1.2.2
  have h14 : ((o + n) % 14).toNat < 14 := rg_p hC.2.2.2.2.1.2.1 hC.2.2.2.2.1.1.1
  have h := ca_stm (sl := sl) (sv := sv) (ta := ta) (aj := aj) (me := me) (ad := ad) (bd := bd) (R := R) (T := T) (J := J) (n := n) (o := o) (X := X) (S := S) (V := V) (VV := VV) (WW := WW) (k := kA (aHang Q a1 a2).1 1 0 0) (kf := kx1 nIO (kA (aHang Q a1 a2).1 1 0 0)) hC (c_X9_hang l hst g τ x sl sv ta aj me ad bd R T hR n o (adF VV 14) hC.2.2.2.2.1.1 hC.2.2.2.2.1.2.1 _ (adF_p h14) a1 ra1 a2 ra2) (EQ_hang e a1 a2) ⟨SI_aHang hR a1 a2, SI_aHang hQ a1 a2⟩ (fun h => kA_0 h) (fun E h => kx_100 (nx_hang a1 a2).1 (nx_hang a1 a2).2 h)
  exact ⟨_, hp, (c_L_hang l g τ x oa z0 _ _ _ a1 a2 _ rfl h (fun v w1 h => h.2.2.1) (fun E w1 h => h.2.1) (fun E w1 h => h.1.2) (fun v w1 h => ⟨_, h.2.1⟩)).mono (fun v w1 h => so1 h)⟩

set_option maxRecDepth 100000 in
theorem f_cut (l : Launch) (hst : l.stackTraces = false) (g : va_G) (τ : Nat → ClassId) (x oa : Nat) (z0 : Int64) {Q : Nat → Nat → Int} {n : Int} {B : Nat → Nat → Nat → Int} {V : Nat → Int} {K : Nat → Nat → Nat → Int} {t : Int} {S : Nat → Int} {w : va_W} (hw : CW τ x Q n B V K t S w) (a1 : Int) (ra1 : -2147483648 ≤ a1 ∧ a1 < 2147483648) : ∃ w0, w.Perm w0 ∧ qMet l yL_cut wsL_cut { frames := 10, cells := 1, slots := 6, locals := 173 } g τ [Value.ref x, Value.int (iI a1), Value.ref oa] ([outC oa z0 τ] ++ w0) (SO (kA (aCut Q a1).1 1 0 2) (aCut Q a1).1 (W3 (kA (aCut Q a1).1 1 0 2) (Wn w0 (kA (aCut Q a1).1 1 0 2) (CW τ x (aCut Q a1).2 (mN n) (rmB n B Q).2 V K t S) (CW τ x Q n B V K t S))) oa τ) := by
  obtain ⟨sl, sv, ta, aj, me, ad, bd, R, T, J, o, X, VV, WW, hC, hp⟩ := hw
  have hR := hC.1.1
  have hQ := hC.1.2.1
  have e := hC.1.2.2
  have h14 : ((o + n) % 14).toNat < 14 := rg_p hC.2.2.2.2.1.2.1 hC.2.2.2.2.1.1.1
  have h := ca_stm (sl := sl) (sv := sv) (ta := ta) (aj := aj) (me := me) (ad := ad) (bd := bd) (R := R) (T := T) (J := J) (n := n) (o := o) (X := X) (S := S) (V := V) (VV := VV) (WW := WW) (k := kA (aCut Q a1).1 1 0 2) (kf := kx2 nIO nIS (kA (aCut Q a1).1 1 0 2)) hC (c_X9_cut l hst g τ x sl sv ta aj me ad bd R T hR n o (adF VV 14) hC.2.2.2.2.1.1 hC.2.2.2.2.1.2.1 _ (adF_p h14) a1 ra1) (EQ_cut e a1) ⟨SI_aCut hR a1, SI_aCut hQ a1⟩ (fun h => kA_0 h) (fun E h => kx_102 (nx_cut hQ a1) h)
  exact ⟨_, hp, (c_L_cut l g τ x oa z0 _ _ _ a1 _ rfl h (fun v w1 h => h.2.2.1) (fun E w1 h => h.2.1) (fun E w1 h => h.1.elim (fun z => Or.inl z.2) (fun z => Or.inr z.2)) (fun v w1 h => ⟨_, h.2.1⟩)).mono (fun v w1 h => so2 (by decide) h)⟩

set_option maxRecDepth 100000 in
theorem f_shelve (l : Launch) (hst : l.stackTraces = false) (g : va_G) (τ : Nat → ClassId) (x oa : Nat) (z0 : Int64) {Q : Nat → Nat → Int} {n : Int} {B : Nat → Nat → Nat → Int} {V : Nat → Int} {K : Nat → Nat → Nat → Int} {t : Int} {S : Nat → Int} {w : va_W} (hw : CW τ x Q n B V K t S w) (a1 : Int) (ra1 : -2147483648 ≤ a1 ∧ a1 < 2147483648) (a2 : Int) (ra2 : -2147483648 ≤ a2 ∧ a2 < 2147483648) (a3 : Int) (ra3 : -2147483648 ≤ a3 ∧ a3 < 2147483648) : ∃ w0, w.Perm w0 ∧ qMet l yL_shelve wsL_shelve { frames := 10, cells := 1, slots := 6, locals := 175 } g τ [Value.ref x, Value.int (iI a1), Value.int (iI a2), Value.int (iI a3), Value.ref oa] ([outC oa z0 τ] ++ w0) (SO (kA (aShelve Q a1 a2 a3).1 1 2 3) (aShelve Q a1 a2 a3).1 (W3 (kA (aShelve Q a1 a2 a3).1 1 2 3) (Wn w0 (kA (aShelve Q a1 a2 a3).1 1 2 3) (CW τ x (aShelve Q a1 a2 a3).2 (mN n) (rmB n B Q).2 V K t S) (CW τ x Q n B V K t S))) oa τ) := by
  obtain ⟨sl, sv, ta, aj, me, ad, bd, R, T, J, o, X, VV, WW, hC, hp⟩ := hw
  have hR := hC.1.1
  have hQ := hC.1.2.1
  have e := hC.1.2.2
  have h14 : ((o + n) % 14).toNat < 14 := rg_p hC.2.2.2.2.1.2.1 hC.2.2.2.2.1.1.1
  have h := ca_stm (sl := sl) (sv := sv) (ta := ta) (aj := aj) (me := me) (ad := ad) (bd := bd) (R := R) (T := T) (J := J) (n := n) (o := o) (X := X) (S := S) (V := V) (VV := VV) (WW := WW) (k := kA (aShelve Q a1 a2 a3).1 1 2 3) (kf := kx3 nIO nIA nIS (kA (aShelve Q a1 a2 a3).1 1 2 3)) hC (c_X9_shelve l hst g τ x sl sv ta aj me ad bd R T hR n o (adF VV 14) hC.2.2.2.2.1.1 hC.2.2.2.2.1.2.1 _ (adF_p h14) a1 ra1 a2 ra2 a3 ra3) (EQ_shelve e hR a1 a2 a3) ⟨SI_aShelve hR a1 a2 a3, SI_aShelve hQ a1 a2 a3⟩ (fun h => kA_0 h) (fun E h => kx_123 h)
  exact ⟨_, hp, (c_L_shelve l g τ x oa z0 _ _ _ a1 a2 a3 _ rfl h (fun v w1 h => h.2.2.1) (fun E w1 h => h.2.1) (fun E w1 h => h.1.elim (fun z => Or.inl z.2) (fun z => z.elim (fun z => Or.inr (Or.inl z.2)) (fun z => Or.inr (Or.inr z.2)))) (fun v w1 h => ⟨_, h.2.1⟩)).mono (fun v w1 h => so3 (by decide) (by decide) (by decide) h)⟩

set_option maxRecDepth 100000 in
theorem f_take (l : Launch) (hst : l.stackTraces = false) (g : va_G) (τ : Nat → ClassId) (x oa : Nat) (z0 : Int64) {Q : Nat → Nat → Int} {n : Int} {B : Nat → Nat → Nat → Int} {V : Nat → Int} {K : Nat → Nat → Nat → Int} {t : Int} {S : Nat → Int} {w : va_W} (hw : CW τ x Q n B V K t S w) (a1 : Int) (ra1 : -2147483648 ≤ a1 ∧ a1 < 2147483648) : ∃ w0, w.Perm w0 ∧ qMet l yL_take wsL_take { frames := 10, cells := 1, slots := 6, locals := 173 } g τ [Value.ref x, Value.int (iI a1), Value.ref oa] ([outC oa z0 τ] ++ w0) (SO (kA (aTake Q a1).1 1 0 2) (aTake Q a1).1 (W3 (kA (aTake Q a1).1 1 0 2) (Wn w0 (kA (aTake Q a1).1 1 0 2) (CW τ x (aTake Q a1).2 (mN n) (rmB n B Q).2 V K t S) (CW τ x Q n B V K t S))) oa τ) := by
  obtain ⟨sl, sv, ta, aj, me, ad, bd, R, T, J, o, X, VV, WW, hC, hp⟩ := hw
  have hR := hC.1.1
  have hQ := hC.1.2.1
  have e := hC.1.2.2
  have h14 : ((o + n) % 14).toNat < 14 := rg_p hC.2.2.2.2.1.2.1 hC.2.2.2.2.1.1.1
  have h := ca_stm (sl := sl) (sv := sv) (ta := ta) (aj := aj) (me := me) (ad := ad) (bd := bd) (R := R) (T := T) (J := J) (n := n) (o := o) (X := X) (S := S) (V := V) (VV := VV) (WW := WW) (k := kA (aTake Q a1).1 1 0 2) (kf := kx2 nIO nIS (kA (aTake Q a1).1 1 0 2)) hC (c_X9_take l hst g τ x sl sv ta aj me ad bd R T hR n o (adF VV 14) hC.2.2.2.2.1.1 hC.2.2.2.2.1.2.1 _ (adF_p h14) a1 ra1) (EQ_take e hR a1) ⟨SI_aTake hR a1, SI_aTake hQ a1⟩ (fun h => kA_0 h) (fun E h => kx_102 (nx_take a1) h)
  exact ⟨_, hp, (c_L_take l g τ x oa z0 _ _ _ a1 _ rfl h (fun v w1 h => h.2.2.1) (fun E w1 h => h.2.1) (fun E w1 h => h.1.elim (fun z => Or.inl z.2) (fun z => Or.inr z.2)) (fun v w1 h => ⟨_, h.2.1⟩)).mono (fun v w1 h => so2 (by decide) h)⟩

set_option maxRecDepth 100000 in
theorem f_sort (l : Launch) (hst : l.stackTraces = false) (g : va_G) (τ : Nat → ClassId) (x oa : Nat) (z0 : Int64) {Q : Nat → Nat → Int} {n : Int} {B : Nat → Nat → Nat → Int} {V : Nat → Int} {K : Nat → Nat → Nat → Int} {t : Int} {S : Nat → Int} {w : va_W} (hw : CW τ x Q n B V K t S w) (a1 : Int) (ra1 : -2147483648 ≤ a1 ∧ a1 < 2147483648) : ∃ w0, w.Perm w0 ∧ qMet l yL_sort wsL_sort { frames := 10, cells := 1, slots := 6, locals := 173 } g τ [Value.ref x, Value.int (iI a1), Value.ref oa] ([outC oa z0 τ] ++ w0) (SO (kA (aSrt Q a1).1 1 0 0) (aSrt Q a1).1 (W3 (kA (aSrt Q a1).1 1 0 0) (Wn w0 (kA (aSrt Q a1).1 1 0 0) (CW τ x (aSrt Q a1).2 (mN n) (rmB n B Q).2 V K t S) (CW τ x Q n B V K t S))) oa τ) := by
  obtain ⟨sl, sv, ta, aj, me, ad, bd, R, T, J, o, X, VV, WW, hC, hp⟩ := hw
  have hR := hC.1.1
  have hQ := hC.1.2.1
  have e := hC.1.2.2
  have h14 : ((o + n) % 14).toNat < 14 := rg_p hC.2.2.2.2.1.2.1 hC.2.2.2.2.1.1.1
  have h := ca_stmj (sl := sl) (sv := sv) (ta := ta) (aj := aj) (me := me) (ad := ad) (bd := bd) (R := R) (T := T) (J := J) (n := n) (o := o) (X := X) (S := S) (V := V) (VV := VV) (WW := WW) (k := kA (aSrt Q a1).1 1 0 0) (kf := kx1 nIO (kA (aSrt Q a1).1 1 0 0)) hC (c_X9_sort l hst g τ x sl sv ta aj me ad bd R T hR n o (adF VV 14) hC.2.2.2.2.1.1 hC.2.2.2.2.1.2.1 _ (adF_p h14) J hC.2.1.1 hC.2.1.2 a1 ra1) (EQ_srt e hR a1) ⟨SI_aSrt hR a1, SI_aSrt hQ a1⟩ (fun h => kA_0 h) (fun E h => kx_100 (nx_sort a1).1 (nx_sort a1).2 h)
  exact ⟨_, hp, (c_L_sort l g τ x oa z0 _ _ _ a1 _ rfl h (fun v w1 h => h.2.2.1) (fun E w1 h => h.2.1) (fun E w1 h => h.1.2) (fun v w1 h => ⟨_, h.2.1⟩)).mono (fun v w1 h => so1 h)⟩

set_option maxRecDepth 100000 in
theorem f_set (l : Launch) (hst : l.stackTraces = false) (g : va_G) (τ : Nat → ClassId) (x oa : Nat) (z0 : Int64) {Q : Nat → Nat → Int} {n : Int} {B : Nat → Nat → Nat → Int} {V : Nat → Int} {K : Nat → Nat → Nat → Int} {t : Int} {S : Nat → Int} {w : va_W} (hw : CW τ x Q n B V K t S w) (a1 : Int) (ra1 : -2147483648 ≤ a1 ∧ a1 < 2147483648) (a2 : Int) (ra2 : -2147483648 ≤ a2 ∧ a2 < 2147483648) : ∃ w0, w.Perm w0 ∧ qMet l yL_set wsL_set { frames := 10, cells := 1, slots := 6, locals := 174 } g τ [Value.ref x, Value.int (iI a1), Value.int (iI a2), Value.ref oa] ([outC oa z0 τ] ++ w0) (SO (kA (aSet Q a1 a2).1 0 1 0) (aSet Q a1 a2).1 (W3 (kA (aSet Q a1 a2).1 0 1 0) (Wn w0 (kA (aSet Q a1 a2).1 0 1 0) (CW τ x (aSet Q a1 a2).2 (mN n) (rmB n B Q).2 V K t S) (CW τ x Q n B V K t S))) oa τ) := by
  obtain ⟨sl, sv, ta, aj, me, ad, bd, R, T, J, o, X, VV, WW, hC, hp⟩ := hw
  have hR := hC.1.1
  have hQ := hC.1.2.1
  have e := hC.1.2.2
  have h14 : ((o + n) % 14).toNat < 14 := rg_p hC.2.2.2.2.1.2.1 hC.2.2.2.2.1.1.1
  have h := ca_stm (sl := sl) (sv := sv) (ta := ta) (aj := aj) (me := me) (ad := ad) (bd := bd) (R := R) (T := T) (J := J) (n := n) (o := o) (X := X) (S := S) (V := V) (VV := VV) (WW := WW) (k := kA (aSet Q a1 a2).1 0 1 0) (kf := kx1 nIA (kA (aSet Q a1 a2).1 0 1 0)) hC (c_X9_set l hst g τ x sl sv ta aj me ad bd R T hR n o (adF VV 14) hC.2.2.2.2.1.1 hC.2.2.2.2.1.2.1 _ (adF_p h14) a1 ra1 a2 ra2) (EQ_set e a1 a2) ⟨SI_aSet hR a1 a2, SI_aSet hQ a1 a2⟩ (fun h => kA_0 h) (fun E h => kx_010 (nx_set hQ a1 a2).1 (nx_set hQ a1 a2).2 h)
  exact ⟨_, hp, (c_L_set l g τ x oa z0 _ _ _ a1 a2 _ rfl h (fun v w1 h => h.2.2.1) (fun E w1 h => h.2.1) (fun E w1 h => h.1.2) (fun v w1 h => ⟨_, h.2.1⟩)).mono (fun v w1 h => so1 h)⟩

set_option maxRecDepth 100000 in
theorem f_undo (l : Launch) (hst : l.stackTraces = false) (g : va_G) (τ : Nat → ClassId) (x oa : Nat) (z0 : Int64) {Q : Nat → Nat → Int} {n : Int} {B : Nat → Nat → Nat → Int} {V : Nat → Int} {K : Nat → Nat → Nat → Int} {t : Int} {S : Nat → Int} {w : va_W} (hw : CW τ x Q n B V K t S w)  : ∃ w0, w.Perm w0 ∧ qMet l yL_undo wsL_undo { frames := 8, cells := 1, slots := 6, locals := 130 } g τ [Value.ref x, Value.ref oa] ([outC oa z0 τ] ++ w0) (SO ((if n = 0 then 1 else 0 : Int)) (n - 1) (W3 ((if n = 0 then 1 else 0 : Int)) (Wn w0 ((if n = 0 then 1 else 0 : Int)) (CW τ x (B (n - 1).toNat) (n - 1) B V K t S) (CW τ x Q n B V K t S))) oa τ) := by
  obtain ⟨sl, sv, ta, aj, me, ad, bd, R, T, J, o, X, VV, WW, hC, hp⟩ := hw
  have hR := hC.1.1
  have hQ := hC.1.2.1
  have e := hC.1.2.2
  have h := cu (sl := sl) (sv := sv) (ta := ta) (aj := aj) (me := me) (ad := ad) (bd := bd) (R := R) (T := T) (J := J) (n := n) (o := o) (X := X) (S := S) (V := V) (VV := VV) (WW := WW) hC (c_X9_undo l hst g τ x sl sv ta aj me ad bd R n o (adF VV 14) hC.2.2.2.2.1.1 hC.2.2.2.2.1.2.1 _ (fun h0 => adF_p (rg_p hC.2.2.2.2.1.2.1 (by omega))))
  exact ⟨_, hp, (c_L_undo l g τ x oa z0 _ _ _  _ rfl h (fun v w1 h => h.2.2.1) (fun E w1 h => h.2.1) (fun E w1 h => h.1.2) (fun v w1 h => ⟨_, h.2.1⟩)).mono (fun v w1 h => so1 h)⟩

set_option maxRecDepth 100000 in
theorem f_older (l : Launch) (hst : l.stackTraces = false) (g : va_G) (τ : Nat → ClassId) (x oa : Nat) (z0 : Int64) {Q : Nat → Nat → Int} {n : Int} {B : Nat → Nat → Nat → Int} {V : Nat → Int} {K : Nat → Nat → Nat → Int} {t : Int} {S : Nat → Int} {w : va_W} (hw : CW τ x Q n B V K t S w) (a1 : Int) (ra1 : -2147483648 ≤ a1 ∧ a1 < 2147483648) (a2 : Int) (ra2 : -2147483648 ≤ a2 ∧ a2 < 2147483648) : ∃ w0, w.Perm w0 ∧ qMet l yL_older wsL_older { frames := 8, cells := 1, slots := 6, locals := 132 } g τ [Value.ref x, Value.int (iI a1), Value.int (iI a2), Value.ref oa] ([outC oa z0 τ] ++ w0) (SO ((pOlder Q a1 a2).1) (pOlder Q a1 a2).2 (W3 ((pOlder Q a1 a2).1) (Wn w0 ((pOlder Q a1 a2).1) (CW τ x Q n B V K t S) (CW τ x Q n B V K t S))) oa τ) := by
  obtain ⟨sl, sv, ta, aj, me, ad, bd, R, T, J, o, X, VV, WW, hC, hp⟩ := hw
  have hR := hC.1.1
  have hQ := hC.1.2.1
  have e := hC.1.2.2
  have hc := c_X9_older l hst g τ x sl sv ta aj me ad bd R hR J hC.2.1.1 hC.2.1.2 a1 ra1 a2 ra2
  rw [pOlder_q e hR a1 a2] at hc
  have h := cq_sj (sl := sl) (sv := sv) (ta := ta) (aj := aj) (me := me) (ad := ad) (bd := bd) (R := R) (T := T) (J := J) (n := n) (o := o) (X := X) (S := S) (V := V) (VV := VV) (WW := WW) (k := (pOlder Q a1 a2).1) (val := (pOlder Q a1 a2).2) (kf := kx1 nIO ((pOlder Q a1 a2).1)) hC hc (fun v w1 h => h) (fun E w1 h => ⟨⟨h.1, kx1_ne h.1⟩, J, hC.2.1.1, hC.2.1.2, h.2⟩)
  exact ⟨_, hp, (c_L_older l g τ x oa z0 _ _ _ a1 a2 _ rfl h (fun v w1 h => h.2.2.1) (fun E w1 h => h.2.1) (fun E w1 h => h.1.2) (fun v w1 h => ⟨_, h.2.1⟩)).mono (fun v w1 h => so1 h)⟩

set_option maxRecDepth 100000 in
theorem f_decides (l : Launch) (hst : l.stackTraces = false) (g : va_G) (τ : Nat → ClassId) (x oa : Nat) (z0 : Int64) {Q : Nat → Nat → Int} {n : Int} {B : Nat → Nat → Nat → Int} {V : Nat → Int} {K : Nat → Nat → Nat → Int} {t : Int} {S : Nat → Int} {w : va_W} (hw : CW τ x Q n B V K t S w) (a1 : Int) (ra1 : -2147483648 ≤ a1 ∧ a1 < 2147483648) : ∃ w0, w.Perm w0 ∧ qMet l yL_decides wsL_decides { frames := 8, cells := 1, slots := 6, locals := 131 } g τ [Value.ref x, Value.int (iI a1), Value.ref oa] ([outC oa z0 τ] ++ w0) (SO ((pDec Q a1).1) (pDec Q a1).2 (W3 ((pDec Q a1).1) (Wn w0 ((pDec Q a1).1) (CW τ x Q n B V K t S) (CW τ x Q n B V K t S))) oa τ) := by
  obtain ⟨sl, sv, ta, aj, me, ad, bd, R, T, J, o, X, VV, WW, hC, hp⟩ := hw
  have hR := hC.1.1
  have hQ := hC.1.2.1
  have e := hC.1.2.2
  have hc := c_X9_decides l hst g τ x sl sv ta aj me ad bd R hR J hC.2.1.1 hC.2.1.2 a1 ra1
  rw [pDec_q e hR a1] at hc
  have h := cq_sj (sl := sl) (sv := sv) (ta := ta) (aj := aj) (me := me) (ad := ad) (bd := bd) (R := R) (T := T) (J := J) (n := n) (o := o) (X := X) (S := S) (V := V) (VV := VV) (WW := WW) (k := (pDec Q a1).1) (val := (pDec Q a1).2) (kf := kx1 nIO ((pDec Q a1).1)) hC hc (fun v w1 h => h) (fun E w1 h => ⟨⟨h.1, kx1_ne h.1⟩, J, hC.2.1.1, hC.2.1.2, h.2⟩)
  exact ⟨_, hp, (c_L_decides l g τ x oa z0 _ _ _ a1 _ rfl h (fun v w1 h => h.2.2.1) (fun E w1 h => h.2.1) (fun E w1 h => h.1.2) (fun v w1 h => ⟨_, h.2.1⟩)).mono (fun v w1 h => so1 h)⟩

set_option maxRecDepth 100000 in
theorem f_ifCracked (l : Launch) (hst : l.stackTraces = false) (g : va_G) (τ : Nat → ClassId) (x oa : Nat) (z0 : Int64) {Q : Nat → Nat → Int} {n : Int} {B : Nat → Nat → Nat → Int} {V : Nat → Int} {K : Nat → Nat → Nat → Int} {t : Int} {S : Nat → Int} {w : va_W} (hw : CW τ x Q n B V K t S w) (a1 : Int) (ra1 : -2147483648 ≤ a1 ∧ a1 < 2147483648) (a2 : Int) (ra2 : -2147483648 ≤ a2 ∧ a2 < 2147483648) : ∃ w0, w.Perm w0 ∧ qMet l yL_ifCracked wsL_ifCracked { frames := 9, cells := 1, slots := 6, locals := 152 } g τ [Value.ref x, Value.int (iI a1), Value.int (iI a2), Value.ref oa] ([outC oa z0 τ] ++ w0) (SO (kA (aCrack Q a1 a2).1 1 2 3) (vCr Q a1 a2) (W3 (kA (aCrack Q a1 a2).1 1 2 3) (Wn w0 (kA (aCrack Q a1 a2).1 1 2 3) (CW τ x Q n B V K t S) (CW τ x Q n B V K t S))) oa τ) := by
  obtain ⟨sl, sv, ta, aj, me, ad, bd, R, T, J, o, X, VV, WW, hC, hp⟩ := hw
  have hR := hC.1.1
  have hQ := hC.1.2.1
  have e := hC.1.2.2
  have eq := EQ_crack e a1 a2
  have hc := c_X9_ifCracked l hst g τ x sl sv ta aj me ad bd R T hR J hC.2.1.1 hC.2.1.2 a1 ra1 a2 ra2
  rw [show rFks (aCrack R a1 a2).2 (R 10 0).toNat - rFks R (R 10 0).toNat = vCr Q a1 a2 from vCr_q e hR a1 a2] at hc
  rw [eq.1] at hc
  have h := cq_stj (sl := sl) (sv := sv) (ta := ta) (aj := aj) (me := me) (ad := ad) (bd := bd) (R := R) (T := T) (J := J) (n := n) (o := o) (X := X) (S := S) (V := V) (VV := VV) (WW := WW) (k := kA (aCrack Q a1 a2).1 1 2 3) (val := (vCr Q a1 a2)) (kf := kx3 nIO nIA nIS (kA (aCrack Q a1 a2).1 1 2 3)) hC hc (fun v w1 h => ⟨kA_0 h.1, h.2.1, h.2.2⟩) (fun E w1 h => ⟨kx_123 h.1, h.2⟩)
  exact ⟨_, hp, (c_L_ifCracked l g τ x oa z0 _ _ _ a1 a2 _ rfl h (fun v w1 h => h.2.2.1) (fun E w1 h => h.2.1) (fun E w1 h => h.1.elim (fun z => Or.inl z.2) (fun z => z.elim (fun z => Or.inr (Or.inl z.2)) (fun z => Or.inr (Or.inr z.2)))) (fun v w1 h => ⟨_, h.2.1⟩)).mono (fun v w1 h => so3 (by decide) (by decide) (by decide) h)⟩

set_option maxRecDepth 100000 in
theorem f_ifHung (l : Launch) (hst : l.stackTraces = false) (g : va_G) (τ : Nat → ClassId) (x oa : Nat) (z0 : Int64) {Q : Nat → Nat → Int} {n : Int} {B : Nat → Nat → Nat → Int} {V : Nat → Int} {K : Nat → Nat → Nat → Int} {t : Int} {S : Nat → Int} {w : va_W} (hw : CW τ x Q n B V K t S w) (a1 : Int) (ra1 : -2147483648 ≤ a1 ∧ a1 < 2147483648) (a2 : Int) (ra2 : -2147483648 ≤ a2 ∧ a2 < 2147483648) : ∃ w0, w.Perm w0 ∧ qMet l yL_ifHung wsL_ifHung { frames := 9, cells := 1, slots := 6, locals := 152 } g τ [Value.ref x, Value.int (iI a1), Value.int (iI a2), Value.ref oa] ([outC oa z0 τ] ++ w0) (SO (kA (aHang Q a1 a2).1 1 0 0) (rCh (aHang Q a1 a2).2 a2 (-1) 2) (W3 (kA (aHang Q a1 a2).1 1 0 0) (Wn w0 (kA (aHang Q a1 a2).1 1 0 0) (CW τ x Q n B V K t S) (CW τ x Q n B V K t S))) oa τ) := by
  obtain ⟨sl, sv, ta, aj, me, ad, bd, R, T, J, o, X, VV, WW, hC, hp⟩ := hw
  have hR := hC.1.1
  have hQ := hC.1.2.1
  have e := hC.1.2.2
  have eq := EQ_hang e a1 a2
  have hc := c_X9_ifHung l hst g τ x sl sv ta aj me ad bd R T hR J hC.2.1.1 hC.2.1.2 a1 ra1 a2 ra2
  rw [rCh_q eq.2 (SI_aHang hR a1 a2) a2 (-1) 2] at hc
  rw [eq.1] at hc
  have h := cq_stj (sl := sl) (sv := sv) (ta := ta) (aj := aj) (me := me) (ad := ad) (bd := bd) (R := R) (T := T) (J := J) (n := n) (o := o) (X := X) (S := S) (V := V) (VV := VV) (WW := WW) (k := kA (aHang Q a1 a2).1 1 0 0) (val := (rCh (aHang Q a1 a2).2 a2 (-1) 2)) (kf := kx1 nIO (kA (aHang Q a1 a2).1 1 0 0)) hC hc (fun v w1 h => ⟨kA_0 h.1, h.2.1, h.2.2⟩) (fun E w1 h => ⟨kx_100 (nx_hang a1 a2).1 (nx_hang a1 a2).2 h.1, h.2⟩)
  exact ⟨_, hp, (c_L_ifHung l g τ x oa z0 _ _ _ a1 a2 _ rfl h (fun v w1 h => h.2.2.1) (fun E w1 h => h.2.1) (fun E w1 h => h.1.2) (fun v w1 h => ⟨_, h.2.1⟩)).mono (fun v w1 h => so1 h)⟩

set_option maxRecDepth 100000 in
theorem f_inYear (l : Launch) (hst : l.stackTraces = false) (g : va_G) (τ : Nat → ClassId) (x oa : Nat) (z0 : Int64) {Q : Nat → Nat → Int} {n : Int} {B : Nat → Nat → Nat → Int} {V : Nat → Int} {K : Nat → Nat → Nat → Int} {t : Int} {S : Nat → Int} {w : va_W} (hw : CW τ x Q n B V K t S w) (a1 : Int) (ra1 : -2147483648 ≤ a1 ∧ a1 < 2147483648) : ∃ w0, w.Perm w0 ∧ qMet l yL_inYear wsL_inYear { frames := 8, cells := 1, slots := 6, locals := 131 } g τ [Value.ref x, Value.int (iI a1), Value.ref oa] ([outC oa z0 τ] ++ w0) (SO ((pIn Q a1).1) (pIn Q a1).2 (W3 ((pIn Q a1).1) (Wn w0 ((pIn Q a1).1) (CW τ x Q n B V K t S) (CW τ x Q n B V K t S))) oa τ) := by
  obtain ⟨sl, sv, ta, aj, me, ad, bd, R, T, J, o, X, VV, WW, hC, hp⟩ := hw
  have hR := hC.1.1
  have hQ := hC.1.2.1
  have e := hC.1.2.2
  have hc := c_X9_inYear l hst g τ x sl sv ta aj me ad bd R hR J hC.2.1.1 hC.2.1.2 a1 ra1
  rw [pIn_q e hR a1] at hc
  have h := cq_sj (sl := sl) (sv := sv) (ta := ta) (aj := aj) (me := me) (ad := ad) (bd := bd) (R := R) (T := T) (J := J) (n := n) (o := o) (X := X) (S := S) (V := V) (VV := VV) (WW := WW) (k := (pIn Q a1).1) (val := (pIn Q a1).2) (kf := kx1 nIA ((pIn Q a1).1)) hC hc (fun v w1 h => h) (fun E w1 h => ⟨⟨h.1, kx1_ne h.1⟩, J, hC.2.1.1, hC.2.1.2, h.2⟩)
  exact ⟨_, hp, (c_L_inYear l g τ x oa z0 _ _ _ a1 _ rfl h (fun v w1 h => h.2.2.1) (fun E w1 h => h.2.1) (fun E w1 h => h.1.2) (fun v w1 h => ⟨_, h.2.1⟩)).mono (fun v w1 h => so1 h)⟩

set_option maxRecDepth 100000 in
theorem f_leastBubbles (l : Launch) (hst : l.stackTraces = false) (g : va_G) (τ : Nat → ClassId) (x oa : Nat) (z0 : Int64) {Q : Nat → Nat → Int} {n : Int} {B : Nat → Nat → Nat → Int} {V : Nat → Int} {K : Nat → Nat → Nat → Int} {t : Int} {S : Nat → Int} {w : va_W} (hw : CW τ x Q n B V K t S w) (a1 : Int) (ra1 : -2147483648 ≤ a1 ∧ a1 < 2147483648) (a2 : Int) (ra2 : -2147483648 ≤ a2 ∧ a2 < 2147483648) : ∃ w0, w.Perm w0 ∧ qMet l yL_leastBubbles wsL_leastBubbles { frames := 8, cells := 1, slots := 6, locals := 133 } g τ [Value.ref x, Value.int (iI a1), Value.int (iI a2), Value.ref oa] ([outC oa z0 τ] ++ w0) (SO (kLb a1 a2) (lbN Q a1.toNat a2) (W3 (kLb a1 a2) (Wn w0 (kLb a1 a2) (CW τ x Q n B V K t S) (CW τ x Q n B V K t S))) oa τ) := by
  obtain ⟨sl, sv, ta, aj, me, ad, bd, R, T, J, o, X, VV, WW, hC, hp⟩ := hw
  have hR := hC.1.1
  have hQ := hC.1.2.1
  have e := hC.1.2.2
  have h := cq_stj (sl := sl) (sv := sv) (ta := ta) (aj := aj) (me := me) (ad := ad) (bd := bd) (R := R) (T := T) (J := J) (n := n) (o := o) (X := X) (S := S) (V := V) (VV := VV) (WW := WW) (k := kLb a1 a2) (val := (lbN Q a1.toNat a2)) (kf := kx1 nIA (kLb a1 a2)) hC (c_X9_leastBubbles l hst g τ x sl sv ta aj me ad bd R T hR J hC.2.1.1 hC.2.1.2 a1 ra1 a2 ra2) (fun v w1 h => ⟨if_pos h.1, by rw [← lbN_q e hR (show a1.toNat < 2 by have := h.1.1; omega) a2]; exact h.2.1, h.2.2⟩) (fun E w1 h => ⟨⟨⟨if_neg h.1, h.2.1⟩, fun z => absurd ((show kLb a1 a2 = 1 from if_neg h.1).symm.trans z) (by decide)⟩, T, J, hC.2.1.1, hC.2.1.2, h.2.2⟩)
  exact ⟨_, hp, (c_L_leastBubbles l g τ x oa z0 _ _ _ a1 a2 _ rfl h (fun v w1 h => h.2.2.1) (fun E w1 h => h.2.1) (fun E w1 h => h.1.2) (fun v w1 h => ⟨_, h.2.1⟩)).mono (fun v w1 h => so1 h)⟩

set_option maxRecDepth 100000 in
theorem f_runScript (l : Launch) (hst : l.stackTraces = false) (g : va_G) (τ : Nat → ClassId) (x oa : Nat) (z0 : Int64) {Q : Nat → Nat → Int} {n : Int} {B : Nat → Nat → Nat → Int} {V : Nat → Int} {K : Nat → Nat → Nat → Int} {t : Int} {S : Nat → Int} {w : va_W} (hw : CW τ x Q n B V K t S w) (a1 : Int) (ra1 : -2147483648 ≤ a1 ∧ a1 < 2147483648) (z1 : Int) (hz1 : rngl z1) : ∃ w0, w.Perm w0 ∧ qMet l yL_runScript wsL_runScript { frames := 8, cells := 1, slots := 6, locals := 179 } g τ [Value.ref x, Value.int (iI a1), Value.long (iL z1), Value.ref oa] ([outC oa z0 τ] ++ w0) (SO (kRn a1 z1) (qRunN Q a1.toNat z1) (W3 (kRn a1 z1) (Wn w0 (kRn a1 z1) (CW τ x Q n B V K t S) (CW τ x Q n B V K t S))) oa τ) := by
  obtain ⟨sl, sv, ta, aj, me, ad, bd, R, T, J, o, X, VV, WW, hC, hp⟩ := hw
  have hR := hC.1.1
  have hQ := hC.1.2.1
  have e := hC.1.2.2
  rw [← qRunN_q e hR a1.toNat z1]
  have h := cq_stj (sl := sl) (sv := sv) (ta := ta) (aj := aj) (me := me) (ad := ad) (bd := bd) (R := R) (T := T) (J := J) (n := n) (o := o) (X := X) (S := S) (V := V) (VV := VV) (WW := WW) (k := kRn a1 z1) (val := (qRunN R a1.toNat z1)) (kf := kx1 nIA (kRn a1 z1)) hC (c_X9_runScript l hst g τ x sl sv ta aj me ad bd R T hR J hC.2.1.1 hC.2.1.2 a1 ra1 z1 hz1) (fun v w1 h => ⟨if_pos h.1, h.2.1, h.2.2⟩) (fun E w1 h => ⟨⟨⟨if_neg h.1, h.2.1⟩, fun z => absurd ((show kRn a1 z1 = 1 from if_neg h.1).symm.trans z) (by decide)⟩, T, J, hC.2.1.1, hC.2.1.2, h.2.2⟩)
  exact ⟨_, hp, (c_L_runScript l g τ x oa z0 _ _ _ a1 (iL z1) _ rfl h (fun v w1 h => h.2.2.1) (fun E w1 h => h.2.1) (fun E w1 h => h.1.2) (fun v w1 h => ⟨_, h.2.1⟩)).mono (fun v w1 h => so1 h)⟩

set_option maxRecDepth 100000 in
theorem f_simulate (l : Launch) (hst : l.stackTraces = false) (g : va_G) (τ : Nat → ClassId) (x oa : Nat) (z0 : Int64) {Q : Nat → Nat → Int} {n : Int} {B : Nat → Nat → Nat → Int} {V : Nat → Int} {K : Nat → Nat → Nat → Int} {t : Int} {S : Nat → Int} {w : va_W} (hw : CW τ x Q n B V K t S w) (x1 : Int64) (a1 : Int) (ra1 : -2147483648 ≤ a1 ∧ a1 < 2147483648) : ∃ w0, w.Perm w0 ∧ qMet l yL_simulate wsL_simulate { frames := 8, cells := 1, slots := 6, locals := 178 } g τ [Value.ref x, Value.long x1, Value.int (iI a1), Value.ref oa] ([outC oa z0 τ] ++ w0) (SO (kSm a1) (qSimN Q x1 a1.toNat) (W3 (kSm a1) (Wn w0 (kSm a1) (CW τ x Q n B V K t S) (CW τ x Q n B V K t S))) oa τ) := by
  obtain ⟨sl, sv, ta, aj, me, ad, bd, R, T, J, o, X, VV, WW, hC, hp⟩ := hw
  have hR := hC.1.1
  have hQ := hC.1.2.1
  have e := hC.1.2.2
  rw [← qSimN_q e hR x1 a1.toNat]
  have h := cq_stj (sl := sl) (sv := sv) (ta := ta) (aj := aj) (me := me) (ad := ad) (bd := bd) (R := R) (T := T) (J := J) (n := n) (o := o) (X := X) (S := S) (V := V) (VV := VV) (WW := WW) (k := kSm a1) (val := (qSimN R x1 a1.toNat)) (kf := kx1 nIA (kSm a1)) hC (c_X9_simulate l hst g τ x sl sv ta aj me ad bd R T hR J hC.2.1.1 hC.2.1.2 x1 a1 ra1) (fun v w1 h => ⟨if_pos h.1, h.2.1, h.2.2⟩) (fun E w1 h => ⟨⟨⟨if_neg h.1, h.2.1⟩, fun z => absurd ((show kSm a1 = 1 from if_neg h.1).symm.trans z) (by decide)⟩, T, J, hC.2.1.1, hC.2.1.2, h.2.2⟩)
  exact ⟨_, hp, (c_L_simulate l g τ x oa z0 _ _ _ x1 a1 _ rfl h (fun v w1 h => h.2.2.1) (fun E w1 h => h.2.1) (fun E w1 h => h.1.2) (fun v w1 h => ⟨_, h.2.1⟩)).mono (fun v w1 h => so1 h)⟩

set_option maxRecDepth 100000 in
theorem f_save (l : Launch) (hst : l.stackTraces = false) (g : va_G) (τ : Nat → ClassId) (x oa : Nat) (z0 : Int64) {Q : Nat → Nat → Int} {n : Int} {B : Nat → Nat → Nat → Int} {V : Nat → Int} {K : Nat → Nat → Nat → Int} {t : Int} {S : Nat → Int} {w : va_W} (hw : CW τ x Q n B V K t S w) (a1 : Int) (ra1 : -2147483648 ≤ a1 ∧ a1 < 2147483648) : ∃ w0, w.Perm w0 ∧ qMet l yL_save wsL_save { frames := 8, cells := 1, slots := 6, locals := 131 } g τ [Value.ref x, Value.int (iI a1), Value.ref oa] ([outC oa z0 τ] ++ w0) (SO (kSv a1) (Q 10 0) (W3 (kSv a1) (Wn w0 (kSv a1) (CW τ x Q n B (updZ V a1.toNat 1) (upB K a1.toNat Q) t S) (CW τ x Q n B V K t S))) oa τ) := by
  obtain ⟨sl, sv, ta, aj, me, ad, bd, R, T, J, o, X, VV, WW, hC, hp⟩ := hw
  have hR := hC.1.1
  have hQ := hC.1.2.1
  have e := hC.1.2.2
  obtain ⟨i, hi, hz⟩ : ∃ i : Nat, i < 2 ∧ (0 ≤ a1 ∧ a1 < 2 → i = a1.toNat) := by
    by_cases c : 0 ≤ a1 ∧ a1 < 2
    · exact ⟨a1.toNat, by omega, fun _ => rfl⟩
    · exact ⟨0, by omega, fun h => absurd h c⟩
  have hsf : 0 ≤ a1 ∧ a1 < 2 → adF WW 2 a1.toNat = some ((WW i).1 0) := fun c => by
    rw [← hz c]
    exact if_pos hi
  have h := csv (sl := sl) (sv := sv) (ta := ta) (aj := aj) (me := me) (ad := ad) (bd := bd) (R := R) (T := T) (J := J) (n := n) (o := o) (X := X) (S := S) (V := V) (VV := VV) (WW := WW) hi hz hC (c_X9_save l hst g τ x sl sv ta aj me ad (WW i).1 R (WW i).2 hR (adF WW 2) (bd 0) V hC.2.2.2.2.2.1 a1 ra1 hsf)
  exact ⟨_, hp, (c_L_save l g τ x oa z0 _ _ _ a1 _ rfl h (fun v w1 h => h.2.2.1) (fun E w1 h => h.2.1) (fun E w1 h => h.1.2) (fun v w1 h => ⟨_, h.2.1⟩)).mono (fun v w1 h => so1 h)⟩

set_option maxRecDepth 100000 in
theorem f_restore (l : Launch) (hst : l.stackTraces = false) (g : va_G) (τ : Nat → ClassId) (x oa : Nat) (z0 : Int64) {Q : Nat → Nat → Int} {n : Int} {B : Nat → Nat → Nat → Int} {V : Nat → Int} {K : Nat → Nat → Nat → Int} {t : Int} {S : Nat → Int} {w : va_W} (hw : CW τ x Q n B V K t S w) (a1 : Int) (ra1 : -2147483648 ≤ a1 ∧ a1 < 2147483648) : ∃ w0, w.Perm w0 ∧ qMet l yL_restore wsL_restore { frames := 8, cells := 1, slots := 6, locals := 131 } g τ [Value.ref x, Value.int (iI a1), Value.ref oa] ([outC oa z0 τ] ++ w0) (SO (kRs a1 V) (K a1.toNat 10 0) (W3 (kRs a1 V) (Wn w0 (kRs a1 V) (CW τ x (K a1.toNat) 0 B V K t S) (CW τ x Q n B V K t S))) oa τ) := by
  obtain ⟨sl, sv, ta, aj, me, ad, bd, R, T, J, o, X, VV, WW, hC, hp⟩ := hw
  have hR := hC.1.1
  have hQ := hC.1.2.1
  have e := hC.1.2.2
  obtain ⟨i, hi, hz⟩ : ∃ i : Nat, i < 2 ∧ (0 ≤ a1 ∧ a1 < 2 → i = a1.toNat) := by
    by_cases c : 0 ≤ a1 ∧ a1 < 2
    · exact ⟨a1.toNat, by omega, fun _ => rfl⟩
    · exact ⟨0, by omega, fun h => absurd h c⟩
  have hsf : 0 ≤ a1 ∧ a1 < 2 → adF WW 2 a1.toNat = some ((WW i).1 0) := fun c => by
    rw [← hz c]
    exact if_pos hi
  have h := crs (sl := sl) (sv := sv) (ta := ta) (aj := aj) (me := me) (ad := ad) (bd := bd) (R := R) (T := T) (J := J) (n := n) (o := o) (X := X) (S := S) (V := V) (VV := VV) (WW := WW) hi hz hC (c_X9_restore l hst g τ x sl sv ta aj me ad (WW i).1 R (WW i).2 (hC.2.2.2.2.2.2.1 i) n o (adF VV 14) (adF WW 2) (bd 0) V hC.2.2.2.2.2.1 a1 ra1 hsf)
  exact ⟨_, hp, (c_L_restore l g τ x oa z0 _ _ _ a1 _ rfl h (fun v w1 h => h.2.2.1) (fun E w1 h => h.2.1) (fun E w1 h => h.1.elim (fun z => Or.inl z.2) (fun z => Or.inr z.2)) (fun v w1 h => ⟨_, h.2.1⟩)).mono (fun v w1 h => so2 (by decide) h)⟩
