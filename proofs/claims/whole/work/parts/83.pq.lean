/-! states that agree on what lives answer alike -/
section PQ
variable {R Q : Nat → Nat → Int}
theorem fk_q (h : EQ R Q) (hI : SI R) {s : Nat} (hs : (s : Int) < R 10 0) : rFk R s = rFk Q s := rFk_cg (EQ_EA h hI) hI.s.1 hs
theorem sl_q (h : EQ R Q) (hI : SI R) {s : Nat} (hs : (s : Int) < R 10 0) : sLo R s = sLo Q s ∧ sHi R s = sHi Q s ∧ rMask R s = rMask Q s := by
  obtain ⟨-, a2, a3, a4, -⟩ := (EQ_EA h hI).2.2 s hs
  exact ⟨a2, a3, a4⟩
theorem rY_q (h : EQ R Q) (hI : SI R) (lo hi w q : Int) : rY R lo hi w q = rY Q lo hi w q := rY_cg (EQ_EA h hI).1 lo hi w q
theorem y0_q (h : EQ R Q) (hI : SI R) {s : Nat} (hs : (s : Int) < R 10 0) : y0 R s = y0 Q s := by
  obtain ⟨a2, a3, a4⟩ := sl_q h hI hs
  unfold y0
  rw [a2, a3, a4, rY_q h hI]
theorem rFks_q (h : EQ R Q) (hI : SI R) : rFks R (R 10 0).toNat = rFks Q (Q 10 0).toNat := by
  rw [rFks_cg (EQ_EA h hI) hI.s.1, h.2.2.1]
theorem rFo_q (h : EQ R Q) (hI : SI R) (c : Int) : rFo R c (R 10 0).toNat = rFo Q c (Q 10 0).toNat := by
  rw [← h.2.2.1]
  unfold rFo
  exact cnt_cong (fun s hs => by rw [fk_q h hI (by omega), (h.2.2.2.2.2.1 s (by omega)).2.2.2.2.2])
theorem rBc_q (h : EQ R Q) (hI : SI R) : rBc R 6 = rBc Q 6 := by
  unfold rBc
  exact cnt_cong (fun c _ => by rw [rFo_q h hI])
theorem rIs_q (h : EQ R Q) (hI : SI R) {k : Nat} (hk : k < 6) : ∀ m : Nat, (m : Int) ≤ R 18 k → rIs R k m = rIs Q k m ∧ rBf R k m = rBf Q k m
  | 0, _ => ⟨rfl, rfl⟩
  | m + 1, hm => by
    obtain ⟨i1, i2⟩ := rIs_q h hI hk m (by omega)
    have e := (h.2.2.2.2.2.2.1 k hk).2 m (by omega)
    have ho := hI.on k m hk (by omega)
    have e1 := fk_q h hI (s := (R 19 (k * 6 + m)).toNat) (by omega)
    have e2 := y0_q h hI (s := (R 19 (k * 6 + m)).toNat) (by omega)
    simp only [rIs, rBf]
    rw [← e, ← e1, ← e2, i1, i2]
    exact ⟨rfl, rfl⟩
theorem rBad_q (h : EQ R Q) (hI : SI R) : rBad R 6 = rBad Q 6 := by
  unfold rBad
  exact cnt_cong (fun k hk => by
    have hn := hI.hN k hk
    rw [(rIs_q h hI hk (R 18 k).toNat (by omega)).1, (h.2.2.2.2.2.2.1 k hk).1])
theorem rCnt_q (h : EQ R Q) (hI : SI R) (w : Int) : rCnt R w (R 10 0).toNat = rCnt Q w (Q 10 0).toNat := by
  rw [← h.2.2.1]
  unfold rCnt
  refine cnt_cong (fun s hs => ?_)
  obtain ⟨-, a2, -, a4, -, a6⟩ := h.2.2.2.2.2.1 s (by omega)
  have hm := (hI.sl s (by omega)).2.1
  have e20 := h.2.2.2.2.2.2.2 (R 12 s).toNat (by omega)
  unfold cPd
  rw [← a2, ← a4, ← a6, ← e20, ← sOf_cg h]
theorem rDf_q (h : EQ R Q) (hI : SI R) (d f : Int) : rDf R d f (R 10 0).toNat = rDf Q d f (Q 10 0).toNat := by
  rw [← h.2.2.1]
  unfold rDf
  exact cnt_cong (fun s hs => by rw [fk_q h hI (by omega), (h.2.2.2.2.2.1 s (by omega)).1])
theorem rCan_q (h : EQ R Q) (hI : SI R) {s : Nat} (hs : (s : Int) < R 10 0) (y : Int) : rCan R s y = rCan Q s y := by
  obtain ⟨a2, a3, a4⟩ := sl_q h hI hs
  unfold rCan
  rw [a2, a3, a4, rY_q h hI]
theorem rIn_q (h : EQ R Q) (hI : SI R) (y : Int) : rIn R y (R 10 0).toNat = rIn Q y (Q 10 0).toNat := by
  rw [← h.2.2.1]
  unfold rIn
  exact cnt_cong (fun s hs => by rw [fk_q h hI (by omega), rCan_q h hI (by omega)])
theorem rCh_q (h : EQ R Q) (hI : SI R) (c w q : Int) : rCh R c w q = rCh Q c w q := rCh_cg (EQ_EA h hI) hI.s.1 c w q
theorem rDb_q (h : EQ R Q) (hI : SI R) (c : Int) : ∀ m : Nat, (m : Int) ≤ R 10 0 → rDb R c m = rDb Q c m ∧ rDm R c m = rDm Q c m
  | 0, _ => ⟨rfl, rfl⟩
  | m + 1, hm => by
    obtain ⟨i1, i2⟩ := rDb_q h hI c m (by omega)
    have e1 := (h.2.2.2.2.2.1 m (by omega)).2.2.2.2.2
    obtain ⟨-, -, -, -, e2⟩ := (EQ_EA h hI).2.2 m (by omega)
    simp only [rDb, rDm]
    rw [← e1, ← e2, i1, i2, rCh_q h hI]
    exact ⟨rfl, rfl⟩
theorem kL_q (h : EQ R Q) {r : Nat} (hr : (r : Int) < R 1 0) : kLast R (R 1 0).toNat (r + 1) = kLast Q (R 1 0).toNat (r + 1) := by
  unfold kLast
  by_cases z : r + 1 = (R 1 0).toNat
  · rw [if_pos z, if_pos z]
  · rw [if_neg z, if_neg z, (h.2.2.2.1 (r + 1) (by omega)).1]
theorem pAbout_q (h : EQ R Q) (hI : SI R) (w : Int) : pAbout R w = pAbout Q w := by
  unfold pAbout
  rw [rFks_q h hI, rBc_q h hI, rBad_q h hI, rCnt_q h hI, h.1, h.2.1, h.2.2.1]
theorem pReign_q (h : EQ R Q) (r w : Int) : pReign R r w = pReign Q r w := by
  unfold pReign
  rw [← h.1]
  by_cases c : ¬ (0 ≤ r ∧ r ≤ R 1 0 - 1)
  · rw [if_pos c, if_pos c]
  · rw [if_neg c, if_neg c, (h.2.2.2.1 r.toNat (by omega)).1, (h.2.2.2.1 r.toNat (by omega)).2, kL_q h (by omega)]
theorem pDie_q (h : EQ R Q) (hI : SI R) (d w : Int) : pDie R d w = pDie Q d w := by
  unfold pDie
  rw [← h.2.1]
  by_cases c : ¬ (0 ≤ d ∧ d ≤ R 4 0 - 1)
  · rw [if_pos c, if_pos c]
  · obtain ⟨e1, e2, e3, e4, -⟩ := h.2.2.2.2.1 d.toNat (by omega)
    rw [if_neg c, if_neg c, e1, e2, e3, e4, rDf_q h hI]
theorem pCrack_q (h : EQ R Q) (d k : Int) : pCrack R d k = pCrack Q d k := by
  unfold pCrack
  rw [← h.2.1]
  by_cases c : 0 ≤ d ∧ d ≤ R 4 0 - 1
  · obtain ⟨-, -, -, e4, e5⟩ := h.2.2.2.2.1 d.toNat (by omega)
    rw [← e4]
    by_cases c2 : ¬ ((0 ≤ d ∧ d ≤ R 4 0 - 1) ∧ 0 ≤ k ∧ k ≤ R 8 d.toNat - 1)
    · rw [if_pos c2, if_pos c2]
    · rw [if_neg c2, if_neg c2, e5 k.toNat (by omega)]
  · rw [if_pos (fun z => c z.1), if_pos (fun z => c z.1)]
theorem pSeal_q (h : EQ R Q) (s w : Int) : pSeal R s w = pSeal Q s w := by
  unfold pSeal
  rw [← h.2.2.1]
  by_cases c : ¬ (0 ≤ s ∧ s ≤ R 10 0 - 1)
  · rw [if_pos c, if_pos c]
  · obtain ⟨e1, e2, e3, e4, e5, e6⟩ := h.2.2.2.2.2.1 s.toNat (by omega)
    rw [if_neg c, if_neg c, e1, e2, e3, e4, e5, e6, ← sOf_cg h]
    by_cases z : sOf R s < 6
    · rw [if_pos z, if_pos z, (pOn_cg h z s).1, (pOn_cg h z s).2]
    · rw [if_neg z, if_neg z]
theorem pDated_q (h : EQ R Q) (hI : SI R) (s w : Int) : pDated R s w = pDated Q s w := by
  unfold pDated
  rw [← h.2.2.1]
  by_cases c : ¬ (0 ≤ s ∧ s ≤ R 10 0 - 1)
  · rw [if_pos c, if_pos c]
  · obtain ⟨a2, a3, a4⟩ := sl_q h hI (s := s.toNat) (by omega)
    rw [if_neg c, if_neg c, a2, a3, a4, fk_q h hI (by omega), rY_q h hI]
theorem pPoss_q (h : EQ R Q) (hI : SI R) (s y : Int) : pPoss R s y = pPoss Q s y := by
  unfold pPoss
  rw [← h.2.2.1]
  by_cases c : ¬ (0 ≤ s ∧ s ≤ R 10 0 - 1)
  · rw [if_pos c, if_pos c]
  · rw [if_neg c, if_neg c, rCan_q h hI (by omega)]
theorem on16_q (h : EQ R Q) (c : Int) : cnt (fun s => decide (R 16 s = c)) (R 10 0).toNat = cnt (fun s => decide (Q 16 s = c)) (Q 10 0).toNat := by
  rw [← h.2.2.1]
  exact cnt_cong (fun s hs => by rw [(h.2.2.2.2.2.1 s (by omega)).2.2.2.2.2])
theorem pChart_q (h : EQ R Q) (hI : SI R) (c w : Int) : pChart R c w = pChart Q c w := by
  unfold pChart
  rw [on16_q h, rFo_q h hI, rCh_q h hI]
theorem pShelf_q (h : EQ R Q) (q k : Int) : pShelf R q k = pShelf Q q k := by
  unfold pShelf
  by_cases c : ¬ (0 ≤ q ∧ q ≤ 5)
  · rw [if_pos c, if_pos c]
  · rw [if_neg c, if_neg c]
    by_cases c2 : k < 0
    · rw [if_pos c2, if_pos c2]
    · obtain ⟨e1, e2⟩ := h.2.2.2.2.2.2.1 q.toNat (by omega)
      rw [if_neg c2, if_neg c2, ← e1]
      by_cases c3 : k < R 18 q.toNat
      · rw [if_pos c3, if_pos c3, e2 k.toNat (by omega)]
      · rw [if_neg c3, if_neg c3]
theorem pOlder_q (h : EQ R Q) (hI : SI R) (s t : Int) : pOlder R s t = pOlder Q s t := by
  unfold pOlder
  rw [← h.2.2.1]
  by_cases c : ¬ ((0 ≤ s ∧ s ≤ R 10 0 - 1) ∧ 0 ≤ t ∧ t ≤ R 10 0 - 1)
  · rw [if_pos c, if_pos c]
  · obtain ⟨a2, a3, a4⟩ := sl_q h hI (s := s.toNat) (by omega)
    obtain ⟨b2, b3, b4⟩ := sl_q h hI (s := t.toNat) (by omega)
    rw [if_neg c, if_neg c, a2, a3, a4, b2, b3, b4, y0_q h hI (by omega), y0_q h hI (by omega)]
    simp only [rY_q h hI]
theorem pDec_q (h : EQ R Q) (hI : SI R) (c : Int) : pDec R c = pDec Q c := by
  have hs := hI.s
  unfold pDec
  rw [(rDb_q h hI c (R 10 0).toNat (by omega)).1, h.2.2.1]
theorem pIn_q (h : EQ R Q) (hI : SI R) (y : Int) : pIn R y = pIn Q y := by
  unfold pIn
  rw [rIn_q h hI]
theorem EQ_srt (h : EQ R Q) (hI : SI R) (q : Int) : EQ2 (aSrt R q) (aSrt Q q) := by
  unfold aSrt
  by_cases c : q < 0 ∨ 6 ≤ q
  · rw [if_pos c, if_pos c]
    exact ⟨rfl, h⟩
  · rw [if_neg c, if_neg c]
    exact ⟨oN_cg h hI (by omega), EQ_sort h hI (by omega)⟩
theorem EQ_rs (h : EQ R Q) (hI : SI R) (q : Int) : EQ (rsR R q) (rsR Q q) := by
  rw [aSrt_rs, aSrt_rs]
  exact (EQ_srt h hI q).2
theorem EQ_qA {a b : Int × (Nat → Nat → Int)} (h : EQ2 a b) : (qA a).1 = (qA b).1 ∧ EQ (qA a).2 (qA b).2 := by
  unfold qA
  rw [h.1]
  exact ⟨rfl, h.2⟩
theorem EQ_cmd (h : EQ R Q) (hI : SI R) (g : Int) : (qCmd R g).1 = (qCmd Q g).1 ∧ EQ (qCmd R g).2 (qCmd Q g).2 := by
  have key : ∀ (p : Prop) [Decidable p] (a b : Bool × (Nat → Nat → Int)), (a.1 = b.1 ∧ EQ a.2 b.2) → ((if p then a else (false, R)).1 = (if p then b else (false, Q)).1 ∧ EQ (if p then a else (false, R)).2 (if p then b else (false, Q)).2) := fun p _ a b e => by
    by_cases c : p
    · rw [if_pos c, if_pos c]
      exact e
    · rw [if_neg c, if_neg c]
      exact ⟨rfl, h⟩
  unfold qCmd
  by_cases c1 : g / 100000 = 1
  · rw [if_pos c1, if_pos c1]
    exact EQ_qA (EQ_crack h _ _)
  · rw [if_neg c1, if_neg c1]
    by_cases c2 : g / 100000 = 2
    · rw [if_pos c2, if_pos c2]
      exact key _ _ _ (EQ_qA (EQ_hang h _ _))
    · rw [if_neg c2, if_neg c2]
      by_cases c3 : g / 100000 = 3
      · rw [if_pos c3, if_pos c3]
        exact key _ _ _ (EQ_qA (EQ_cut h _))
      · rw [if_neg c3, if_neg c3]
        by_cases c4 : g / 100000 = 4
        · rw [if_pos c4, if_pos c4]
          exact key _ _ _ (EQ_qA (EQ_shelve h hI _ _ _))
        · rw [if_neg c4, if_neg c4]
          by_cases c5 : g / 100000 = 5
          · rw [if_pos c5, if_pos c5]
            exact key _ _ _ (EQ_qA (EQ_show h hI _ _))
          · rw [if_neg c5, if_neg c5]
            by_cases c6 : g / 100000 = 6
            · rw [if_pos c6, if_pos c6]
              exact key _ _ _ ⟨rfl, EQ_rs h hI _⟩
            · rw [if_neg c6, if_neg c6]
              by_cases c7 : g / 100000 = 7
              · rw [if_pos c7, if_pos c7]
                exact key _ _ _ (EQ_qA (EQ_set h _ _))
              · rw [if_neg c7, if_neg c7]
                by_cases c8 : g / 100000 = 8
                · rw [if_pos c8, if_pos c8, rFks_q h hI]
                  exact ⟨rfl, h⟩
                · rw [if_neg c8, if_neg c8]
                  by_cases c9 : g / 100000 = 9
                  · rw [if_pos c9, if_pos c9, ← h.2.2.1]
                    refine ⟨decide_eq_decide.mpr ⟨fun z => ⟨z.1, z.2.1, ?_⟩, fun z => ⟨z.1, z.2.1, ?_⟩⟩, h⟩
                    · rw [← fk_q h hI (by have := z.2.1; omega)]
                      exact z.2.2
                    · rw [fk_q h hI (by have := z.2.1; omega)]
                      exact z.2.2
                  · rw [if_neg c9, if_neg c9]
                    exact ⟨rfl, h⟩
theorem EQ_stir (h : EQ R Q) (hI : SI R) (r : Int) : EQ (qStir R r) (qStir Q r) := by
  unfold qStir
  by_cases c1 : r % 8 = 0 ∨ r % 8 = 1
  · rw [if_pos c1, if_pos c1]
    exact (EQ_seal h _ _ _ _ _).2
  · rw [if_neg c1, if_neg c1]
    by_cases c2 : r % 8 = 2
    · rw [if_pos c2, if_pos c2]
      exact (EQ_crack h _ _).2
    · rw [if_neg c2, if_neg c2]
      by_cases c3 : r % 8 = 3
      · rw [if_pos c3, if_pos c3]
        exact (EQ_show h hI _ _).2
      · rw [if_neg c3, if_neg c3]
        by_cases c4 : r % 8 = 4
        · rw [if_pos c4, if_pos c4]
          exact (EQ_hang h _ _).2
        · rw [if_neg c4, if_neg c4]
          by_cases c5 : r % 8 = 5
          · rw [if_pos c5, if_pos c5]
            exact (EQ_shelve h hI _ _ _).2
          · rw [if_neg c5, if_neg c5]
            by_cases c6 : r % 8 = 6
            · rw [if_pos c6, if_pos c6]
              exact (EQ_cut h _).2
            · rw [if_neg c6, if_neg c6]
              exact EQ_rs h hI _
theorem EQ_run (h : EQ R Q) (hI : SI R) (n : Nat) (z : Int) : ∀ i, EQ (qRun R n z i) (qRun Q n z i)
  | 0 => h
  | i + 1 => (EQ_cmd (EQ_run h hI n z i) (SI_run hI n z i) _).2
theorem fst_cg {p q : Nat → Bool} (n : Nat) (e : ∀ k, p k = q k) : fst p n = fst q n := by rw [show p = q from funext e]
theorem qRunN_q (h : EQ R Q) (hI : SI R) (n : Nat) (z : Int) : qRunN R n z = qRunN Q n z := by
  have e : fst (qRunP R n z) n = fst (qRunP Q n z) n := fst_cg n (fun i => by
    unfold qRunP
    rw [(EQ_cmd (EQ_run h hI n z i) (SI_run hI n z i) _).1])
  unfold qRunN
  rw [e]
theorem EQ_sim (h : EQ R Q) (hI : SI R) (x : Int64) : ∀ i, EQ (qSim R x i) (qSim Q x i)
  | 0 => h
  | i + 1 => EQ_stir (EQ_sim h hI x i) (SI_sim hI x i) _
theorem qSimN_q (h : EQ R Q) (hI : SI R) (x : Int64) (n : Nat) : qSimN R x n = qSimN Q x n := by
  have e := EQ_sim h hI x n
  have eI := SI_sim hI x n
  unfold qSimN
  rw [rFks_q e eI, rBad_q e eI, e.2.2.1]
theorem lbN_q (h : EQ R Q) (hI : SI R) {a : Nat} (ha : a < 2) (fk : Int) : lbN R a fk = lbN Q a fk := by
  have e : ∀ i, i < 100 → lbP R a fk i = lbP Q a fk i := fun i hi => by
    have e1 : EQ (lbR R a (i + 1)) (lbR Q a (i + 1)) := EQ_20 h a i
    have e2 := rFks_q e1 (SI_lb hI ha (by omega))
    have e3 : rFks (lbR R a (i + 1)) (R 10 0).toNat = rFks (lbR Q a (i + 1)) (Q 10 0).toNat := e2
    unfold lbP
    rw [e3]
  have e2 : fst (lbP R a fk) 100 = fst (lbP Q a fk) 100 := fst_cong e
  unfold lbN
  rw [e2]
end PQ
