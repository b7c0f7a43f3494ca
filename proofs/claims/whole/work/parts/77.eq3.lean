/-! living places: shelving, sorting, emptying -/
section EQU
variable {R Q : Nat → Nat → Int}
theorem oth_cg (h : EQ R Q) {k : Nat} (hk : k < 6) (t : Int) : oth R k t = oth Q k t := by
  obtain ⟨a, b⟩ := pOn_cg h hk t
  unfold oth
  rw [a, b, (h.2.2.2.2.2.2.1 k hk).1]
theorem hsO_cg (h : EQ R Q) (hI : SI R) {t : Nat} (ht : (t : Int) < R 10 0) : hsO R t = hsO Q t := by
  have h1 := (h.2.2.2.2.2.1 t ht).1
  have h2 := (hI.sl t ht).1
  unfold hsO
  rw [← h1, (h.2.2.2.2.1 (R 11 t).toNat (by omega)).1]
theorem othH_cg (h : EQ R Q) (hI : SI R) {k t : Nat} (hk : k < 6) (ht : (t : Int) < R 10 0) : othH R k t = othH Q k t := by
  have e := (pOn_cg h hk 0).2
  unfold othH
  rw [← e, hsO_cg h hI ht]
  refine anyB_cong (fun j hj => ?_)
  have hj2 : (j : Int) < R 18 k := by
    unfold shN at hj
    omega
  have h3 := (h.2.2.2.2.2.2.1 k hk).2 j hj2
  have h4 := hI.on k j hk hj2
  rw [← h3, hsO_cg h hI (by omega)]
theorem EQ_in (h : EQ R Q) (hI : SI R) {q p : Nat} {z : Int} (hq : q < 6) (hp : (p : Int) ≤ R 18 q) (hm : R 18 q < 6) : EQ (inR R q p z) (inR Q q p z) := by
  have hn := hI.hN q hq
  obtain ⟨-, b⟩ := pOn_cg h hq 0
  unfold inR
  rw [← b, ← (h.2.2.2.2.2.2.1 q hq).1]
  refine ⟨h.1, h.2.1, h.2.2.1, h.2.2.2.1, h.2.2.2.2.1, h.2.2.2.2.2.1, fun k hk => ?_, h.2.2.2.2.2.2.2⟩
  obtain ⟨c1, c2⟩ := h.2.2.2.2.2.2.1 k hk
  refine ⟨upd_cg (fun _ => c1), fun j hj => ?_⟩
  have hj2 : (j : Int) < updZ (R 18) q (R 18 q + 1) k := hj
  have hnk := hI.hN k hk
  refine upd_cg (fun hne => ?_)
  unfold updZ at hj2
  unfold shr shN
  by_cases w : k = q
  · rw [if_pos w] at hj2
    subst w
    by_cases y : p < j
    · rw [if_pos (by omega), if_pos (by omega), show k * 6 + j - 1 = k * 6 + (j - 1) from by omega]
      exact c2 (j - 1) (by omega)
    · rw [if_neg (by omega), if_neg (by omega)]
      exact c2 j (by omega)
  · rw [if_neg w] at hj2
    rw [if_neg (by omega), if_neg (by omega)]
    exact c2 j hj2
theorem EQ_shelve (h : EQ R Q) (hI : SI R) (t q k : Int) : EQ2 (aShelve R t q k) (aShelve Q t q k) := by
  unfold aShelve
  rw [← h.2.2.1]
  by_cases b1 : t < 0 ∨ R 10 0 ≤ t ∨ q < 0 ∨ 6 ≤ q
  · rw [if_pos b1, if_pos b1]
    exact ⟨rfl, h⟩
  · rw [if_neg b1, if_neg b1, ← oth_cg h (by omega)]
    by_cases b2 : k < 0 ∨ oth R q.toNat t < k
    · rw [if_pos b2, if_pos b2]
      exact ⟨rfl, h⟩
    · rw [if_neg b2, if_neg b2, ← othH_cg h hI (by omega) (by omega)]
      by_cases b3 : 6 ≤ oth R q.toNat t ∨ othH R q.toNat t.toNat = true
      · rw [if_pos b3, if_pos b3]
        exact ⟨rfl, h⟩
      · rw [if_neg b3, if_neg b3]
        have e := rm_18 hI (t := t) (h := q.toNat) (by omega)
        have g := EQ_in (z := t) (EQ_rm h hI t) (SI_rm hI t) (q := q.toNat) (p := k.toNat) (by omega) (by omega) (by omega)
        exact ⟨(g.2.2.2.2.2.2.1 q.toNat (by omega)).1, g⟩
theorem rRk_cg (h : EQ R Q) (hI : SI R) {s : Nat} (hs : (s : Int) < R 10 0) : rRk R s = rRk Q s := by
  have hA := EQ_EA h hI
  obtain ⟨-, a2, a3, a4, -⟩ := hA.2.2 s hs
  unfold rRk y0
  rw [rFk_cg hA hI.s.1 hs, a2, a3, a4, rY_cg hA.1]
theorem oAt_cg (h : EQ R Q) (hI : SI R) {q k : Nat} (hq : q < 6) (hk : (k : Int) < R 18 q) : oAt R q k = oAt Q q k := by
  have h3 := (h.2.2.2.2.2.2.1 q hq).2 k hk
  have h4 := hI.on q k hq hk
  unfold oAt
  rw [← h3, rRk_cg h hI (by omega)]
theorem oAh_cg (h : EQ R Q) (hI : SI R) {q k : Nat} (hq : q < 6) (hk : (k : Int) < R 18 q) : oAh R q k (R 18 q).toNat = oAh Q q k (Q 18 q).toNat := by
  rw [← (h.2.2.2.2.2.2.1 q hq).1]
  unfold oAh
  exact cnt_cong (fun i hi => by rw [oAt_cg h hI hq (by omega), oAt_cg h hI hq hk])
theorem oN_cg (h : EQ R Q) (hI : SI R) {q : Nat} (hq : q < 6) : oN R q (R 18 q).toNat = oN Q q (Q 18 q).toNat := by
  have e : oN R q (R 18 q).toNat = oN Q q (R 18 q).toNat := by
    unfold oN
    exact cnt_cong (fun i hi => by rw [oAh_cg h hI hq (by omega)])
  rw [e, (h.2.2.2.2.2.2.1 q hq).1]
theorem EQ_sort (h : EQ R Q) (hI : SI R) {q : Nat} (hq : q < 6) : EQ (sR R q) (sR Q q) := by
  refine ⟨h.1, h.2.1, h.2.2.1, h.2.2.2.1, h.2.2.2.2.1, h.2.2.2.2.2.1, fun k hk => ?_, h.2.2.2.2.2.2.2⟩
  obtain ⟨c1, c2⟩ := h.2.2.2.2.2.2.1 k hk
  have hc := (h.2.2.2.2.2.2.1 q hq).1
  have hn := hI.hN q hq
  have hnk := hI.hN k hk
  refine ⟨c1, fun j hj => ?_⟩
  have hj2 : (j : Int) < R 18 k := hj
  by_cases w : k = q
  · subst w
    obtain ⟨k1, a1, a2, a3⟩ := sR_in R k (p := j) (by omega)
    obtain ⟨k2, b1, b2, b3⟩ := sR_in Q k (p := j) (by omega)
    rw [← oAh_cg h hI hk (by omega)] at b2
    have e : k1 = k2 := oAh_inj (R := R) (h := k) (n := (R 18 k).toNat) a1 (by omega) (a2.trans b2.symm)
    rw [a3, b3, ← e]
    exact c2 k1 (by omega)
  · rw [sR_out (by omega), sR_out (by omega)]
    exact c2 j hj2
theorem EQ_0 (R : Nat → Nat → Int) : EQ (R00 R) R0z := by
  refine ⟨rfl, rfl, rfl, fun j hj => ?_, fun j hj => ?_, fun j hj => ?_, fun q hq => ?_, fun a ha => ?_⟩
  · have h2 : (j : Int) < 0 := hj
    omega
  · have h2 : (j : Int) < 0 := hj
    omega
  · have h2 : (j : Int) < 0 := hj
    omega
  · have e : R00 R 18 q = 0 := if_pos hq
    refine ⟨e, fun k hk => ?_⟩
    rw [e] at hk
    omega
  · show updZ (updZ (R 20) 0 10) 1 3 a = updZ (updZ (fun _ => 0) 0 10) 1 3 a
    unfold updZ
    by_cases b : a = 1
    · rw [if_pos b, if_pos b]
    · rw [if_neg b, if_neg b, if_pos (by omega), if_pos (by omega)]
end EQU
