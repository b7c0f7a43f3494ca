/-! an entry; the whole text -/
def uK (c : Int) : Bool := decide (c = 114 ∨ c = 100 ∨ c = 107 ∨ c = 119 ∨ c = 98 ∨ c = 104)
def uEn2 (S : Nat → Int) (n lf : Int) (D : Nat → Nat → Int) (c : Int) (x : Int × Int) : Int × Int × Int × (Nat → Nat → Int) :=
  if x.2 = 0 then (x.1, x.2, lf, D) else if c = 100 then uDi S n x.1 x.2 lf D else if c = 104 then uHa S n x.1 x.2 lf D else if c = 107 then uCr S n x.1 x.2 lf D else if c = 114 then uRe S n x.1 x.2 lf D else uSe S n x.1 x.2 lf D (if c = 119 then 0 else 1)
def uEn (S : Nat → Int) (n a g lf : Int) (D : Nat → Nat → Int) : Int × Int × Int × (Nat → Nat → Int) := uEn2 S n lf D (uH S n a) (uE a g (uK (uH S n a)))
/-- what an entry keeps -/
def uKp (n a g : Int) (r : Int × Int × Int × (Nat → Nat → Int)) : Prop := PI n r.1 r.2.1 ∧ a ≤ r.1 ∧ (¬ r.2.1 = 0 → ¬ g = 0) ∧ SI r.2.2.2
theorem uFin_k {n a g a1 g1 lf : Int} {D : Nat → Nat → Int} {r : Int × (Nat → Nat → Int)} (h : PI n a1 g1) (ha : a ≤ a1) (hg : ¬ g1 = 0 → ¬ g = 0) (hD : SI D) (hr : SI r.2) : uKp n a g (uFin a1 g1 lf D r) := by
  refine ⟨h, ha, hg, ?_⟩
  show SI (if g1 = 0 then D else r.2)
  split
  · exact hD
  · exact hr
theorem uEnd_ok {S : Nat → Int} {n a g : Int} (h : PI n a g) : PI n a (uEnd S n a g) := by
  rcases uEnd_m S n a g with q | ⟨q, -⟩ <;> rw [q] <;> exact ⟨h.1, h.2.1, h.2.2.1, by decide, by decide⟩
theorem uD_le (S : Nat → Int) (n a g lo hi : Int) : a ≤ (uD S n a g lo hi).2.1 ∧ (¬ (uD S n a g lo hi).2.2 = 0 → ¬ g = 0) := by
  have := uD_m S n a g lo hi
  omega
theorem uE_le (a g : Int) (b : Bool) : a ≤ (uE a g b).1 ∧ (¬ (uE a g b).2 = 0 → ¬ g = 0) := by
  rcases uE_m a g b with ⟨h1, h2⟩ | ⟨h1, h2, h3, -⟩ <;> omega
theorem uY_le (S : Nat → Int) (n a g : Int) : ∀ i, a ≤ (uY S n a g i).2.1 ∧ (¬ (uY S n a g i).2.2 = 0 → ¬ g = 0)
  | 0 => uD_le S n a g 1 1
  | i + 1 => by
    have h1 := uY_le S n a g i
    have h2 := uD_le S n (uY S n a g i).2.1 (uY S n a g i).2.2 0 9
    exact ⟨Int.le_trans h1.1 h2.1, fun q => h1.2 (h2.2 q)⟩
theorem uAs_le (S : Nat → Int) (n hi : Int) (s0 : Int × Int × Int × Int) : ∀ i, s0.2.2.1 ≤ (uAs S n hi s0 i).2.2.1
  | 0 => Int.le_refl _
  | i + 1 => by
    have h1 := uAs_le S n hi s0 i
    unfold uAs
    split
    · exact Int.le_trans h1 (uD_le S n _ _ _ hi).1
    · exact h1
theorem uRe_k {S : Nat → Int} {n a g lf : Int} {D : Nat → Nat → Int} (h : PI n a g) (hD : SI D) : uKp n a g (uRe S n a g lf D) := by
  have y1 := uY_ok (S := S) h 3
  have y2 := uY_le S n a g 3
  unfold uRe uRe2 uRe3 uRe4
  generalize uY S n a g 3 = y at y1 y2 ⊢
  have d1 := uD_ok (S := S) y1 (lo := 0) (by decide) 7
  have d2 := uD_le S n y.2.1 y.2.2 0 7
  have d3 := uD_m S n y.2.1 y.2.2 0 7
  generalize uD S n y.2.1 y.2.2 0 7 = d at d1 d2 d3 ⊢
  have u1 := uAs_ok (S := S) (n := n) (hi := 7) ⟨by decide, by decide⟩ (s0 := (0, d.1 + 1, d.2.1, d.2.2)) (uOK_i (by omega) (by omega) (by omega) d1) 122
  have u2 := uAs_le S n 7 (0, d.1 + 1, d.2.1, d.2.2) 122
  have u3 := uAs_m (S := S) (n := n) (hi := 7) (s0 := (0, d.1 + 1, d.2.1, d.2.2)) 122
  exact uFin_k u1.2.2.2.2 (Int.le_trans y2.1 (Int.le_trans d2.1 u2)) (fun q => y2.2 (d2.2 (u3 q))) hD (SI_aReign hD _ _)
theorem uDi_k {S : Nat → Int} {n a g lf : Int} {D : Nat → Nat → Int} (hS : SB S) (h : PI n a g) (hD : SI D) : uKp n a g (uDi S n a g lf D) := by
  have d1 := uD_ok (S := S) h (lo := 0) (by decide) 5
  have d2 := uD_le S n a g 0 5
  unfold uDi uDi2 uDi3 uDi4 uDi5
  generalize uD S n a g 0 5 = d at d1 d2 ⊢
  have y1 := uY_ok (S := S) d1 3
  have y2 := uY_le S n d.2.1 d.2.2 3
  generalize uY S n d.2.1 d.2.2 3 = y at y1 y2 ⊢
  have e1 := uE_ok y1 (b := decide (uH S n y.2.1 = 45)) (fun q => uH_n (S := S) (by have := of_decide_eq_true q; omega))
  have e2 := uE_le y.2.1 y.2.2 (decide (uH S n y.2.1 = 45))
  generalize uE y.2.1 y.2.2 (decide (uH S n y.2.1 = 45)) = e at e1 e2 ⊢
  have t1 := uY_ok (S := S) e1 3
  have t2 := uY_le S n e.1 e.2 3
  generalize uY S n e.1 e.2 3 = t at t1 t2 ⊢
  have n1 := uEnd_ok (S := S) t1
  have n2 := uEnd_m S n t.2.1 t.2.2
  exact uFin_k n1 (by omega) (fun q => d2.2 (y2.2 (e2.2 (t2.2 (by omega))))) hD (SI_aDie hD _ _ _)
theorem uCr_k {S : Nat → Int} {n a g lf : Int} {D : Nat → Nat → Int} (h : PI n a g) (hD : SI D) : uKp n a g (uCr S n a g lf D) := by
  have d1 := uD_ok (S := S) h (lo := 0) (by decide) 9
  have d2 := uD_le S n a g 0 9
  unfold uCr uCr2 uCr3
  generalize uD S n a g 0 9 = d at d1 d2 ⊢
  have y1 := uY_ok (S := S) d1 3
  have y2 := uY_le S n d.2.1 d.2.2 3
  generalize uY S n d.2.1 d.2.2 3 = y at y1 y2 ⊢
  have n1 := uEnd_ok (S := S) y1
  have n2 := uEnd_m S n y.2.1 y.2.2
  exact uFin_k n1 (by omega) (fun q => d2.2 (y2.2 (by omega))) hD (SI_aCrack hD _ _)
theorem uCo_k {S : Nat → Int} {n a g : Int} (h : PI n a g) : PI n (uCo S n a g).2.1 (uCo S n a g).2.2 ∧ a ≤ (uCo S n a g).2.1 ∧ (¬ (uCo S n a g).2.2 = 0 → ¬ g = 0) := by
  unfold uCo
  split
  · rename_i q
    exact ⟨uE_ok h (fun _ => uH_n (S := S) (by omega)), uE_le a g true⟩
  · exact ⟨uD_ok h (by decide) 7, uD_le S n a g 0 7⟩
theorem uSe_k {S : Nat → Int} {n a g lf m : Int} {D : Nat → Nat → Int} (h : PI n a g) (hD : SI D) : uKp n a g (uSe S n a g lf D m) := by
  have d1 := uD_ok (S := S) h (lo := 0) (by decide) 9
  have d2 := uD_le S n a g 0 9
  unfold uSe uSe2 uSe3 uSe4 uSe5 uSe6
  generalize uD S n a g 0 9 = d at d1 d2 ⊢
  obtain ⟨q1, q2, q3⟩ := uCo_k (S := S) d1
  generalize uCo S n d.2.1 d.2.2 = q at q1 q2 q3 ⊢
  have b1 := uD_ok (S := S) q1 (lo := 0) (by decide) 9
  have b2 := uD_le S n q.2.1 q.2.2 0 9
  generalize uD S n q.2.1 q.2.2 0 9 = b at b1 b2 ⊢
  have c1 := uD_ok (S := S) b1 (lo := 0) (by decide) 9
  have c2 := uD_le S n b.2.1 b.2.2 0 9
  generalize uD S n b.2.1 b.2.2 0 9 = c at c1 c2 ⊢
  have u1 := uAs_ok (S := S) (n := n) (hi := 3) ⟨by decide, by decide⟩ (s0 := (0, 0, c.2.1, c.2.2)) (uOK_i (by decide) (fun _ => by decide) (by decide) c1) 122
  have u2 := uAs_le S n 3 (0, 0, c.2.1, c.2.2) 122
  have u3 := uAs_m (S := S) (n := n) (hi := 3) (s0 := (0, 0, c.2.1, c.2.2)) 122
  exact uFin_k u1.2.2.2.2 (Int.le_trans d2.1 (Int.le_trans q2 (Int.le_trans b2.1 (Int.le_trans c2.1 u2)))) (fun z => d2.2 (q3 (b2.2 (c2.2 (u3 z))))) hD (SI_aSeal hD _ _ _ _ _)
theorem uHa_k {S : Nat → Int} {n a g lf : Int} {D : Nat → Nat → Int} (h : PI n a g) (hD : SI D) : uKp n a g (uHa S n a g lf D) := by
  have d1 := uD_ok (S := S) h (lo := 0) (by decide) 2
  have d2 := uD_le S n a g 0 2
  unfold uHa uHa2 uHa3 uHa4
  generalize uD S n a g 0 2 = d at d1 d2 ⊢
  have b1 := uD_ok (S := S) d1 (lo := 0) (by decide) (if d.1 = 2 then 3 else 9)
  have b2 := uD_le S n d.2.1 d.2.2 0 (if d.1 = 2 then 3 else 9)
  generalize uD S n d.2.1 d.2.2 0 (if d.1 = 2 then 3 else 9) = b at b1 b2 ⊢
  have c1 := uD_ok (S := S) b1 (lo := 0) (by decide) 5
  have c2 := uD_le S n b.2.1 b.2.2 0 5
  generalize uD S n b.2.1 b.2.2 0 5 = c at c1 c2 ⊢
  have n1 := uEnd_ok (S := S) c1
  have n2 := uEnd_m S n c.2.1 c.2.2
  exact uFin_k n1 (by omega) (fun q => d2.2 (b2.2 (c2.2 (by omega)))) hD (SI_aHang hD _ _)
theorem uKp_t {n a g a1 g1 : Int} {r : Int × Int × Int × (Nat → Nat → Int)} (h : uKp n a1 g1 r) (ha : a ≤ a1) (hg : ¬ g1 = 0 → ¬ g = 0) : uKp n a g r := ⟨h.1, Int.le_trans ha h.2.1, fun q => hg (h.2.2.1 q), h.2.2.2⟩
theorem uEn_k {S : Nat → Int} {n a g lf : Int} {D : Nat → Nat → Int} (hS : SB S) (h : PI n a g) (hD : SI D) : uKp n a g (uEn S n a g lf D) ∧ (¬ (uEn S n a g lf D).2.1 = 0 → a + 1 ≤ (uEn S n a g lf D).1) := by
  have e1 := uE_ok h (b := uK (uH S n a)) (fun q => uH_n (S := S) (by have := of_decide_eq_true q; omega))
  have e2 := uE_le a g (uK (uH S n a))
  have e3 := uE_m a g (uK (uH S n a))
  unfold uEn
  generalize uE a g (uK (uH S n a)) = x at e1 e2 e3 ⊢
  generalize uH S n a = c
  have key : ∀ r, uKp n x.1 x.2 r → ¬ x.2 = 0 → uKp n a g r ∧ (¬ r.2.1 = 0 → a + 1 ≤ r.1) := fun r hr hx => ⟨uKp_t hr e2.1 e2.2, fun _ => by have := hr.2.1; omega⟩
  unfold uEn2
  split
  · rename_i q
    exact ⟨⟨e1, e2.1, e2.2, hD⟩, fun z => absurd q z⟩
  · rename_i q
    split
    · exact key _ (uDi_k hS e1 hD) q
    · split
      · exact key _ (uHa_k e1 hD) q
      · split
        · exact key _ (uCr_k e1 hD) q
        · split
          · exact key _ (uRe_k e1 hD) q
          · exact key _ (uSe_k e1 hD) q
def uLg (n : Int) (r : Int × Int × Int × (Nat → Nat → Int)) : Bool := decide (¬ r.2.1 = 0 ∧ r.1 < n)
def uLs (S : Nat → Int) (n : Int) (r : Int × Int × Int × (Nat → Nat → Int)) : Int × Int × Int × (Nat → Nat → Int) := uEn S n (uE r.1 r.2.1 (decide (uH S n r.1 = 59))).1 (uE r.1 r.2.1 (decide (uH S n r.1 = 59))).2 r.2.2.1 r.2.2.2
def uLp (S : Nat → Int) (n : Int) : Nat → Int × Int × Int × (Nat → Nat → Int)
  | 0 => uEn S n 0 1 0 R0z
  | i + 1 => if uLg n (uLp S n i) = true then uLs S n (uLp S n i) else uLp S n i
def uOk (n : Int) (r : Int × Int × Int × (Nat → Nat → Int)) : Prop := PI n r.1 r.2.1 ∧ SI r.2.2.2
theorem uLs_k {S : Nat → Int} {n : Int} (hS : SB S) {r : Int × Int × Int × (Nat → Nat → Int)} (h : uOk n r) (hg : ¬ r.2.1 = 0) : uOk n (uLs S n r) ∧ (n - (uLs S n r).1) + (uLs S n r).2.1 < (n - r.1) + r.2.1 := by
  have e1 := uE_ok h.1 (b := decide (uH S n r.1 = 59)) (fun q => uH_n (S := S) (by have := of_decide_eq_true q; omega))
  have e3 := uE_m r.1 r.2.1 (decide (uH S n r.1 = 59))
  unfold uLs
  generalize uE r.1 r.2.1 (decide (uH S n r.1 = 59)) = x at e1 e3 ⊢
  obtain ⟨⟨k1, k2, k3, k4⟩, k5⟩ := uEn_k (lf := r.2.2.1) hS e1 h.2
  obtain ⟨-, -, -, p4, p5⟩ := h.1
  obtain ⟨-, -, -, c4, c5⟩ := id k1
  refine ⟨⟨k1, k4⟩, ?_⟩
  omega
theorem uLp_k {S : Nat → Int} {n : Int} (hS : SB S) (hn : 0 ≤ n ∧ n ≤ 120) : ∀ i, uOk n (uLp S n i)
  | 0 => by
    obtain ⟨⟨k1, -, -, k4⟩, -⟩ := uEn_k (S := S) (n := n) (a := 0) (g := 1) (lf := 0) (D := R0z) hS ⟨by decide, hn.1, hn.2, by decide, by decide⟩ SI_z
    exact ⟨k1, k4⟩
  | i + 1 => by
    have ih := uLp_k hS hn i
    unfold uLp
    split
    · rename_i q
      exact (uLs_k hS ih (of_decide_eq_true q).1).1
    · exact ih
theorem uLp_stop {S : Nat → Int} {n : Int} {i : Nat} (h : uLg n (uLp S n i) = false) : ∀ j, i ≤ j → uLp S n j = uLp S n i
  | 0, hj => by rw [show i = 0 from by omega]
  | j + 1, hj => by
    by_cases e : i = j + 1
    · rw [e]
    · have ih := uLp_stop h j (by omega)
      show (if uLg n (uLp S n j) = true then _ else uLp S n j) = _
      rw [ih, h]
      rfl
def uAll (S : Nat → Int) (n : Int) : Int × Int × Int × (Nat → Nat → Int) := uLp S n 122
def uErr (S : Nat → Int) (n : Int) : Int := if (uAll S n).2.1 = 0 then (uAll S n).1 else -1
theorem pw6 {k : Nat} (h : k ≤ 18) : 1 ≤ (10 : Int) ^ k ∧ (10 : Int) ^ k ≤ 1000000000000000000 := by
  have : ∀ m, m < 19 → 1 ≤ (10 : Int) ^ m ∧ (10 : Int) ^ m ≤ 1000000000000000000 := by decide
  exact this k (by omega)
theorem qT_b (x : Int64) : 0 ≤ qT x ∧ qT x < 2147483648 := by
  unfold qT
  have h2 : (x.toUInt64 >>> ((33 : Int32).toInt64.toUInt64 &&& Int64.toUInt64 63)).toNat < 2147483648 := by
    rw [show ((33 : Int32).toInt64.toUInt64 &&& Int64.toUInt64 63) = (33 : UInt64) from by decide]
    rw [UInt64.toNat_shiftRight]
    have h3 := UInt64.toNat_lt x.toUInt64
    rw [show ((33 : UInt64).toNat % 64) = 33 from by decide, Nat.shiftRight_eq_div_pow]
    omega
  generalize x.toUInt64 >>> ((33 : Int32).toInt64.toUInt64 &&& Int64.toUInt64 63) = u at h2 ⊢
  rw [Int64.toInt_toInt32]
  have h4 : u.toInt64.toInt = (u.toNat : Int) := by
    show (u.toBitVec.toInt) = _
    rw [BitVec.toInt_eq_toNat_of_lt (by show 2 * u.toNat < 2 ^ 64; omega)]
    rfl
  rw [h4, Int.bmod_eq_of_le (by omega) (by omega)]
  omega

theorem cd_X10_readEntry : cd yX10_readEntry 0 := by decide +kernel
theorem in_X10_readEntry_X10 : ∀ w ∈ wsX100, w ∈ wsX10_readEntry := by decide +kernel
set_option maxHeartbeats 4000000 in
set_option maxRecDepth 100000 in
theorem c_X10_readEntry (l : Launch) (g : va_G) (τ : Nat → ClassId) (ma : Nat → Nat) (M : Nat → Int) (S : Nat → Int) (hSB : SB S) (hPI : PI (M 9) (M 10) (M 11)) (D : Nat → Nat → Int) (hI : SI D)  : Met l yX10_readEntry wsX10_readEntry { frames := 4, cells := 0, slots := 0, locals := 99 } (va_Pc [Value.ref (ma 0)] (rwW g τ ([moO ma M, arC (ma 8) (τ 0) 120 S, arC (ma 3) (τ 0) 291 (flR D)]))) (rwQ g (fun v w => ∃ r : Int × Int × Int × (Nat → Nat → Int), r = uEn S (M 9) (M 10) (M 11) (M 12) D ∧ v = none ∧ w = [moO ma (updZ (updZ (updZ M 10 r.1) 11 r.2.1) 12 r.2.2.1), arC (ma 8) (τ 0) 120 S, arC (ma 3) (τ 0) 291 (flR r.2.2.2)]) (inW ([moO ma M, arC (ma 8) (τ 0) 120 S, arC (ma 3) (τ 0) 291 (flR D)]))) 0 0 (inW ([moO ma M, arC (ma 8) (τ 0) 120 S, arC (ma 3) (τ 0) 291 (flR D)])) := by
  obtain ⟨hpi1, hpi2, hpi3, hpi4, hpi5⟩ := id hPI
  have hD0 := hI.d
  have hR0 := hI.r
  have hS0 := hI.s
  refine rwMet (cc := cX10_readEntry) (maxL := 2) (ret := none) (lv := [(0, Value.ref (ma 0))]) (by decide) rfl (Nat.le_of_ble_eq_true rfl) rfl ?_
  intro p e s m below meth c hx hb hr hml hts hown hlocks A H hP hD hS hK ls hl
  refine lv_aload_n hx hb dX10_readEntry_0 rfl (lv_at hl 0 rfl) ?_
  refine ro_V (As := []) (rest := []) (v := some (Value.int (iI (uH S (M 9) (M 10))))) ⟨hx, hb, hml, hown, hts⟩ (c_X10_here l g τ ma M S hSB (by show PI (M 9) (M 10) (M 11); exact ⟨by omega, by omega, by omega, by omega, by omega⟩)) gX10_readEntry_X10_here cd_X10_here rfl rfl ⟨rfl, rfl⟩ ⟨Nat.le_of_ble_eq_true rfl, Nat.le_of_ble_eq_true rfl⟩ hK (cut_P (is := [0, 1]) hP rfl) 0 rfl rfl rfl rfl hl rfl (Nat.le_of_ble_eq_true rfl) dX10_readEntry_1 ⟨Nat.le_of_ble_eq_true rfl, Nat.le_of_ble_eq_true rfl⟩ ?_
  refine tl_some ?_
  have huh := uH_b hSB (M 9) (M 10)
  refine lv_istore_n (lv' := [(1, Value.int (iI (uH S (M 9) (M 10)))), (0, Value.ref (ma 0))]) hx hb dX10_readEntry_4 rfl hl (by decide) rfl (fun ls hl => ?_)
  refine lv_aload_n hx hb dX10_readEntry_5 rfl (lv_at hl 1 rfl) ?_
  refine jn (F0 m 47 ls (Value.int (iI (zB (uK (uH S (M 9) (M 10))))) :: Value.ref (ma 0) :: [])) ?_ (fun K => ?_)
  · skip
    refine rw_V (As := [Value.int (iI (zB (uK (uH S (M 9) (M 10)))))]) (rest := []) ⟨hx, hb, hml, hown, hts⟩ (c_X10_eat l g τ ma M (uK (uH S (M 9) (M 10))) (by show 0 ≤ M 11 ∧ M 11 ≤ 1; omega)) gX10_readEntry_X10_eat cd_X10_eat rfl rfl ⟨rfl, rfl⟩ ⟨Nat.le_of_ble_eq_true rfl, Nat.le_of_ble_eq_true rfl⟩ hK hP hD hS [0] (rfl) (by decide) 0 rfl rfl rfl rfl hl rfl (Nat.le_of_ble_eq_true rfl) dX10_readEntry_47 ⟨Nat.le_of_ble_eq_true rfl, Nat.le_of_ble_eq_true rfl⟩ (fun v w h => by obtain ⟨x9, -, -, rfl⟩ := h; rfl) (fun v w1 H locs hZ hP hD hS => ?_)
    obtain ⟨x_1, hex_1, rfl, rfl⟩ := hZ
    have hP : va_P g vwCl ([moO ma (updZ (updZ M 10 x_1.1) 11 x_1.2), arC (ma 8) (τ 0) 120 S, arC (ma 3) (τ 0) 291 (flR D)]) H := hP
    have hD : va_D A ([moO ma (updZ (updZ M 10 x_1.1) 11 x_1.2), arC (ma 8) (τ 0) 120 S, arC (ma 3) (τ 0) 291 (flR D)]) := hD
    have hex_1 : x_1 = uE (M 10) (M 11) (uK (uH S (M 9) (M 10))) := hex_1
    have hmx_1 := uE_m (M 10) (M 11) (uK (uH S (M 9) (M 10)))
    rw [← hex_1] at hmx_1
    have hwx_1 := uE_ok (show PI (M 9) (M 10) (M 11) from ⟨by omega, by omega, by omega, by omega, by omega⟩) (b := (uK (uH S (M 9) (M 10)))) (fun q => uH_n (S := S) (by have := of_decide_eq_true q; omega))
    rw [← hex_1] at hwx_1
    obtain ⟨hwx_11, hwx_12, hwx_13, hwx_14, hwx_15⟩ := hwx_1
    refine tl_none ?_
    refine lv_aload_n hx hb dX10_readEntry_50 rfl (lv_at hl 1 rfl) ?_
    refine va_get (D := g) (ci := 10) (v := Value.int (iI x_1.2)) (C := RX10) (T := TX10) (N := 18) hx hb hts in_X10_readEntry_X10 hown hK.1 hP 0 (rfl) rfl 11 (by decide) (hts _ (List.mem_of_getElem? (i := 1) rfl) : (Cond.fieldLink RX10 156 "CordSealsModel" "good" "Z").before _ s = true) (fun _ h9 => h9) rfl dX10_readEntry_51 ?_
    refine zi_if_eq (tgt := 143) hx hb ⟨by omega, by omega⟩ dX10_readEntry_54 (by decide) (fun c_2 => ?_) (fun c_2 => ?_)
    · have _ := c_2
      exact rw_vret hx hb hr hlocks hP hS (⟨(x_1.1, x_1.2, M 12, D), by rw [uEn, ← hex_1, uEn2, if_pos (by omega)], rfl, rfl⟩) dX10_readEntry_143
    · have _ := c_2
      refine lv_iload_n hx hb dX10_readEntry_57 rfl (lv_at hl 0 rfl) ?_
      by_cases k_3_100 : (uH S (M 9) (M 10)) = 100
      · refine zi_look (tgt := 107) (x := uH S (M 9) (M 10)) k_3_100 hx hb ⟨by decide, by decide⟩ (v := 100) dX10_readEntry_58 (by decide) (off := 49) (by decide +kernel) (by decide) ?_
        refine lv_aload_n hx hb dX10_readEntry_107 rfl (lv_at hl 1 rfl) ?_
        refine rw_V (As := []) (rest := []) ⟨hx, hb, hml, hown, hts⟩ (c_X10_readDie l g τ ma (updZ (updZ M 10 x_1.1) 11 x_1.2) S hSB (by show PI (M 9) x_1.1 x_1.2; exact ⟨by omega, by omega, by omega, by omega, by omega⟩) D hI) gX10_readEntry_X10_readDie cd_X10_readDie rfl rfl ⟨rfl, rfl⟩ ⟨Nat.le_of_ble_eq_true rfl, Nat.le_of_ble_eq_true rfl⟩ hK hP hD hS [0, 1, 2] (rfl) (by decide) 0 rfl rfl rfl rfl hl rfl (Nat.le_of_ble_eq_true rfl) dX10_readEntry_108 ⟨Nat.le_of_ble_eq_true rfl, Nat.le_of_ble_eq_true rfl⟩ (fun v w h => by obtain ⟨x9, -, -, rfl⟩ := h; rfl) (fun v w1 H locs hZ hP hD hS => ?_)
        obtain ⟨r_4, her_4, rfl, rfl⟩ := hZ
        have hP : va_P g vwCl ([moO ma (updZ (updZ (updZ M 10 r_4.1) 11 r_4.2.1) 12 r_4.2.2.1), arC (ma 8) (τ 0) 120 S, arC (ma 3) (τ 0) 291 (flR r_4.2.2.2)]) H := hP
        have hD : va_D A ([moO ma (updZ (updZ (updZ M 10 r_4.1) 11 r_4.2.1) 12 r_4.2.2.1), arC (ma 8) (τ 0) 120 S, arC (ma 3) (τ 0) 291 (flR r_4.2.2.2)]) := hD
        have her_4 : r_4 = uDi S (M 9) x_1.1 x_1.2 (M 12) D := her_4
        have hkr_4 : uKp (M 9) x_1.1 x_1.2 r_4 := by (rw [her_4]; exact uDi_k hSB (show PI (M 9) x_1.1 x_1.2 from ⟨by omega, by omega, by omega, by omega, by omega⟩) hI)
        obtain ⟨hkr_41, hkr_42, hkr_43, hkr_44, hkr_45⟩ := id hkr_4.1
        refine tl_none ?_
        refine lv_goto (tgt := 143) hx hb dX10_readEntry_111 (by decide) ?_
        exact rw_vret hx hb hr hlocks hP hS (⟨r_4, by rw [uEn, ← hex_1, uEn2, if_neg (by omega), if_pos (by omega), ← her_4], rfl, rfl⟩) dX10_readEntry_143
      by_cases k_3_104 : (uH S (M 9) (M 10)) = 104
      · refine zi_look (tgt := 121) (x := uH S (M 9) (M 10)) k_3_104 hx hb ⟨by decide, by decide⟩ (v := 104) dX10_readEntry_58 (by decide) (off := 63) (by decide +kernel) (by decide) ?_
        refine lv_aload_n hx hb dX10_readEntry_121 rfl (lv_at hl 1 rfl) ?_
        refine rw_V (As := []) (rest := []) ⟨hx, hb, hml, hown, hts⟩ (c_X10_readHang l g τ ma (updZ (updZ M 10 x_1.1) 11 x_1.2) S hSB (by show PI (M 9) x_1.1 x_1.2; exact ⟨by omega, by omega, by omega, by omega, by omega⟩) D hI) gX10_readEntry_X10_readHang cd_X10_readHang rfl rfl ⟨rfl, rfl⟩ ⟨Nat.le_of_ble_eq_true rfl, Nat.le_of_ble_eq_true rfl⟩ hK hP hD hS [0, 1, 2] (rfl) (by decide) 0 rfl rfl rfl rfl hl rfl (Nat.le_of_ble_eq_true rfl) dX10_readEntry_122 ⟨Nat.le_of_ble_eq_true rfl, Nat.le_of_ble_eq_true rfl⟩ (fun v w h => by obtain ⟨x9, -, -, rfl⟩ := h; rfl) (fun v w1 H locs hZ hP hD hS => ?_)
        obtain ⟨r_5, her_5, rfl, rfl⟩ := hZ
        have hP : va_P g vwCl ([moO ma (updZ (updZ (updZ M 10 r_5.1) 11 r_5.2.1) 12 r_5.2.2.1), arC (ma 8) (τ 0) 120 S, arC (ma 3) (τ 0) 291 (flR r_5.2.2.2)]) H := hP
        have hD : va_D A ([moO ma (updZ (updZ (updZ M 10 r_5.1) 11 r_5.2.1) 12 r_5.2.2.1), arC (ma 8) (τ 0) 120 S, arC (ma 3) (τ 0) 291 (flR r_5.2.2.2)]) := hD
        have her_5 : r_5 = uHa S (M 9) x_1.1 x_1.2 (M 12) D := her_5
        have hkr_5 : uKp (M 9) x_1.1 x_1.2 r_5 := by (rw [her_5]; exact uHa_k (S := S) (show PI (M 9) x_1.1 x_1.2 from ⟨by omega, by omega, by omega, by omega, by omega⟩) hI)
        obtain ⟨hkr_51, hkr_52, hkr_53, hkr_54, hkr_55⟩ := id hkr_5.1
        refine tl_none ?_
        refine lv_goto (tgt := 143) hx hb dX10_readEntry_125 (by decide) ?_
        exact rw_vret hx hb hr hlocks hP hS (⟨r_5, by rw [uEn, ← hex_1, uEn2, if_neg (by omega), if_neg (by omega), if_pos (by omega), ← her_5], rfl, rfl⟩) dX10_readEntry_143
      by_cases k_3_107 : (uH S (M 9) (M 10)) = 107
      · refine zi_look (tgt := 114) (x := uH S (M 9) (M 10)) k_3_107 hx hb ⟨by decide, by decide⟩ (v := 107) dX10_readEntry_58 (by decide) (off := 56) (by decide +kernel) (by decide) ?_
        refine lv_aload_n hx hb dX10_readEntry_114 rfl (lv_at hl 1 rfl) ?_
        refine rw_V (As := []) (rest := []) ⟨hx, hb, hml, hown, hts⟩ (c_X10_readCrack l g τ ma (updZ (updZ M 10 x_1.1) 11 x_1.2) S hSB (by show PI (M 9) x_1.1 x_1.2; exact ⟨by omega, by omega, by omega, by omega, by omega⟩) D hI) gX10_readEntry_X10_readCrack cd_X10_readCrack rfl rfl ⟨rfl, rfl⟩ ⟨Nat.le_of_ble_eq_true rfl, Nat.le_of_ble_eq_true rfl⟩ hK hP hD hS [0, 1, 2] (rfl) (by decide) 0 rfl rfl rfl rfl hl rfl (Nat.le_of_ble_eq_true rfl) dX10_readEntry_115 ⟨Nat.le_of_ble_eq_true rfl, Nat.le_of_ble_eq_true rfl⟩ (fun v w h => by obtain ⟨x9, -, -, rfl⟩ := h; rfl) (fun v w1 H locs hZ hP hD hS => ?_)
        obtain ⟨r_6, her_6, rfl, rfl⟩ := hZ
        have hP : va_P g vwCl ([moO ma (updZ (updZ (updZ M 10 r_6.1) 11 r_6.2.1) 12 r_6.2.2.1), arC (ma 8) (τ 0) 120 S, arC (ma 3) (τ 0) 291 (flR r_6.2.2.2)]) H := hP
        have hD : va_D A ([moO ma (updZ (updZ (updZ M 10 r_6.1) 11 r_6.2.1) 12 r_6.2.2.1), arC (ma 8) (τ 0) 120 S, arC (ma 3) (τ 0) 291 (flR r_6.2.2.2)]) := hD
        have her_6 : r_6 = uCr S (M 9) x_1.1 x_1.2 (M 12) D := her_6
        have hkr_6 : uKp (M 9) x_1.1 x_1.2 r_6 := by (rw [her_6]; exact uCr_k (S := S) (show PI (M 9) x_1.1 x_1.2 from ⟨by omega, by omega, by omega, by omega, by omega⟩) hI)
        obtain ⟨hkr_61, hkr_62, hkr_63, hkr_64, hkr_65⟩ := id hkr_6.1
        refine tl_none ?_
        refine lv_goto (tgt := 143) hx hb dX10_readEntry_118 (by decide) ?_
        exact rw_vret hx hb hr hlocks hP hS (⟨r_6, by rw [uEn, ← hex_1, uEn2, if_neg (by omega), if_neg (by omega), if_neg (by omega), if_pos (by omega), ← her_6], rfl, rfl⟩) dX10_readEntry_143
      by_cases k_3_114 : (uH S (M 9) (M 10)) = 114
      · refine zi_look (tgt := 100) (x := uH S (M 9) (M 10)) k_3_114 hx hb ⟨by decide, by decide⟩ (v := 114) dX10_readEntry_58 (by decide) (off := 42) (by decide +kernel) (by decide) ?_
        refine lv_aload_n hx hb dX10_readEntry_100 rfl (lv_at hl 1 rfl) ?_
        refine rw_V (As := []) (rest := []) ⟨hx, hb, hml, hown, hts⟩ (c_X10_readReign l g τ ma (updZ (updZ M 10 x_1.1) 11 x_1.2) S hSB (by show PI (M 9) x_1.1 x_1.2; exact ⟨by omega, by omega, by omega, by omega, by omega⟩) D hI) gX10_readEntry_X10_readReign cd_X10_readReign rfl rfl ⟨rfl, rfl⟩ ⟨Nat.le_of_ble_eq_true rfl, Nat.le_of_ble_eq_true rfl⟩ hK hP hD hS [0, 1, 2] (rfl) (by decide) 0 rfl rfl rfl rfl hl rfl (Nat.le_of_ble_eq_true rfl) dX10_readEntry_101 ⟨Nat.le_of_ble_eq_true rfl, Nat.le_of_ble_eq_true rfl⟩ (fun v w h => by obtain ⟨x9, -, -, rfl⟩ := h; rfl) (fun v w1 H locs hZ hP hD hS => ?_)
        obtain ⟨r_7, her_7, rfl, rfl⟩ := hZ
        have hP : va_P g vwCl ([moO ma (updZ (updZ (updZ M 10 r_7.1) 11 r_7.2.1) 12 r_7.2.2.1), arC (ma 8) (τ 0) 120 S, arC (ma 3) (τ 0) 291 (flR r_7.2.2.2)]) H := hP
        have hD : va_D A ([moO ma (updZ (updZ (updZ M 10 r_7.1) 11 r_7.2.1) 12 r_7.2.2.1), arC (ma 8) (τ 0) 120 S, arC (ma 3) (τ 0) 291 (flR r_7.2.2.2)]) := hD
        have her_7 : r_7 = uRe S (M 9) x_1.1 x_1.2 (M 12) D := her_7
        have hkr_7 : uKp (M 9) x_1.1 x_1.2 r_7 := by (rw [her_7]; exact uRe_k (S := S) (show PI (M 9) x_1.1 x_1.2 from ⟨by omega, by omega, by omega, by omega, by omega⟩) hI)
        obtain ⟨hkr_71, hkr_72, hkr_73, hkr_74, hkr_75⟩ := id hkr_7.1
        refine tl_none ?_
        refine lv_goto (tgt := 143) hx hb dX10_readEntry_104 (by decide) ?_
        exact rw_vret hx hb hr hlocks hP hS (⟨r_7, by rw [uEn, ← hex_1, uEn2, if_neg (by omega), if_neg (by omega), if_neg (by omega), if_neg (by omega), if_pos (by omega), ← her_7], rfl, rfl⟩) dX10_readEntry_143
      refine zi_lookD (x := uH S (M 9) (M 10)) (tgt := 128) ⟨by omega, by omega⟩ hx hb dX10_readEntry_58 (by decide) (by simp only [Op.lookupswitch.offset_cons, if_neg (fun z : (100 : Int) = (uH S (M 9) (M 10)) => k_3_100 z.symm), if_neg (fun z : (104 : Int) = (uH S (M 9) (M 10)) => k_3_104 z.symm), if_neg (fun z : (107 : Int) = (uH S (M 9) (M 10)) => k_3_107 z.symm), if_neg (fun z : (114 : Int) = (uH S (M 9) (M 10)) => k_3_114 z.symm), Op.lookupswitch.offset_nil]) (by decide) ?_
      refine lv_aload_n hx hb dX10_readEntry_128 rfl (lv_at hl 1 rfl) ?_
      refine jn (F0 m 140 ls (Value.int (iI (if uH S (M 9) (M 10) = 119 then 0 else 1)) :: Value.ref (ma 0) :: [])) ?_ (fun K => ?_)
      · skip
        refine rw_V (As := [Value.int (iI (if uH S (M 9) (M 10) = 119 then 0 else 1))]) (rest := []) ⟨hx, hb, hml, hown, hts⟩ (c_X10_readSeal l g τ ma (updZ (updZ M 10 x_1.1) 11 x_1.2) S hSB (by show PI (M 9) x_1.1 x_1.2; exact ⟨by omega, by omega, by omega, by omega, by omega⟩) D hI (if uH S (M 9) (M 10) = 119 then 0 else 1) (by omega)) gX10_readEntry_X10_readSeal cd_X10_readSeal rfl rfl ⟨rfl, rfl⟩ ⟨Nat.le_of_ble_eq_true rfl, Nat.le_of_ble_eq_true rfl⟩ hK hP hD hS [0, 1, 2] (rfl) (by decide) 0 rfl rfl rfl rfl hl rfl (Nat.le_of_ble_eq_true rfl) dX10_readEntry_140 ⟨Nat.le_of_ble_eq_true rfl, Nat.le_of_ble_eq_true rfl⟩ (fun v w h => by obtain ⟨x9, -, -, rfl⟩ := h; rfl) (fun v w1 H locs hZ hP hD hS => ?_)
        obtain ⟨r_8, her_8, rfl, rfl⟩ := hZ
        have hP : va_P g vwCl ([moO ma (updZ (updZ (updZ M 10 r_8.1) 11 r_8.2.1) 12 r_8.2.2.1), arC (ma 8) (τ 0) 120 S, arC (ma 3) (τ 0) 291 (flR r_8.2.2.2)]) H := hP
        have hD : va_D A ([moO ma (updZ (updZ (updZ M 10 r_8.1) 11 r_8.2.1) 12 r_8.2.2.1), arC (ma 8) (τ 0) 120 S, arC (ma 3) (τ 0) 291 (flR r_8.2.2.2)]) := hD
        have her_8 : r_8 = uSe S (M 9) x_1.1 x_1.2 (M 12) D (if uH S (M 9) (M 10) = 119 then 0 else 1) := her_8
        have hkr_8 : uKp (M 9) x_1.1 x_1.2 r_8 := by (rw [her_8]; exact uSe_k (S := S) (show PI (M 9) x_1.1 x_1.2 from ⟨by omega, by omega, by omega, by omega, by omega⟩) hI)
        obtain ⟨hkr_81, hkr_82, hkr_83, hkr_84, hkr_85⟩ := id hkr_8.1
        refine tl_none ?_
        exact rw_vret hx hb hr hlocks hP hS (⟨r_8, by rw [uEn, ← hex_1, uEn2, if_neg (by omega), if_neg (by omega), if_neg (by omega), if_neg (by omega), if_neg (by omega), ← her_8], rfl, rfl⟩) dX10_readEntry_143
      · skip
        refine lv_iload_n hx hb dX10_readEntry_129 rfl (lv_at hl 0 rfl) ?_
        refine lv_bipush (v := iI 119) hx hb dX10_readEntry_130 (by decide) ?_
        refine zi_icmp_ne (tgt := 139) hx hb ⟨by omega, by omega⟩ ⟨by decide, by decide⟩ dX10_readEntry_132 (by decide) (fun c_9 => ?_) (fun c_9 => ?_)
        · have _ := c_9
          refine lv_iconst (v := iI 1) hx hb dX10_readEntry_139 (by decide) ?_
          exact cv_i (congrArg iI (Eq.symm (show (if uH S (M 9) (M 10) = 119 then 0 else 1) = 1 from by first | rw [if_pos (by omega)] | rw [if_neg (by omega)]))) K
        · have _ := c_9
          refine lv_iconst (v := iI 0) hx hb dX10_readEntry_135 (by decide) ?_
          refine lv_goto (tgt := 140) hx hb dX10_readEntry_136 (by decide) ?_
          exact cv_i (congrArg iI (Eq.symm (show (if uH S (M 9) (M 10) = 119 then 0 else 1) = 0 from by first | rw [if_pos (by omega)] | rw [if_neg (by omega)]))) K
  · skip
    refine lv_iload_n hx hb dX10_readEntry_6 rfl (lv_at hl 0 rfl) ?_
    refine lv_bipush (v := iI 114) hx hb dX10_readEntry_7 (by decide) ?_
    refine zi_icmp_eq (tgt := 42) hx hb ⟨by omega, by omega⟩ ⟨by decide, by decide⟩ dX10_readEntry_9 (by decide) (fun c_10 => ?_) (fun c_10 => ?_)
    · have _ := c_10
      refine lv_iconst (v := iI 1) hx hb dX10_readEntry_42 (by decide) ?_
      refine lv_goto (tgt := 47) hx hb dX10_readEntry_43 (by decide) ?_
      exact cv_i (congrArg iI (Eq.symm (show (zB (uK (uH S (M 9) (M 10)))) = 1 from by unfold uK; first | (rw [decide_eq_true (by omega)]; rfl) | (rw [decide_eq_false (by omega)]; rfl)))) K
    · have _ := c_10
      refine lv_iload_n hx hb dX10_readEntry_12 rfl (lv_at hl 0 rfl) ?_
      refine lv_bipush (v := iI 100) hx hb dX10_readEntry_13 (by decide) ?_
      refine zi_icmp_eq (tgt := 42) hx hb ⟨by omega, by omega⟩ ⟨by decide, by decide⟩ dX10_readEntry_15 (by decide) (fun c_11 => ?_) (fun c_11 => ?_)
      · have _ := c_11
        refine lv_iconst (v := iI 1) hx hb dX10_readEntry_42 (by decide) ?_
        refine lv_goto (tgt := 47) hx hb dX10_readEntry_43 (by decide) ?_
        exact cv_i (congrArg iI (Eq.symm (show (zB (uK (uH S (M 9) (M 10)))) = 1 from by unfold uK; first | (rw [decide_eq_true (by omega)]; rfl) | (rw [decide_eq_false (by omega)]; rfl)))) K
      · have _ := c_11
        refine lv_iload_n hx hb dX10_readEntry_18 rfl (lv_at hl 0 rfl) ?_
        refine lv_bipush (v := iI 107) hx hb dX10_readEntry_19 (by decide) ?_
        refine zi_icmp_eq (tgt := 42) hx hb ⟨by omega, by omega⟩ ⟨by decide, by decide⟩ dX10_readEntry_21 (by decide) (fun c_12 => ?_) (fun c_12 => ?_)
        · have _ := c_12
          refine lv_iconst (v := iI 1) hx hb dX10_readEntry_42 (by decide) ?_
          refine lv_goto (tgt := 47) hx hb dX10_readEntry_43 (by decide) ?_
          exact cv_i (congrArg iI (Eq.symm (show (zB (uK (uH S (M 9) (M 10)))) = 1 from by unfold uK; first | (rw [decide_eq_true (by omega)]; rfl) | (rw [decide_eq_false (by omega)]; rfl)))) K
        · have _ := c_12
          refine lv_iload_n hx hb dX10_readEntry_24 rfl (lv_at hl 0 rfl) ?_
          refine lv_bipush (v := iI 119) hx hb dX10_readEntry_25 (by decide) ?_
          refine zi_icmp_eq (tgt := 42) hx hb ⟨by omega, by omega⟩ ⟨by decide, by decide⟩ dX10_readEntry_27 (by decide) (fun c_13 => ?_) (fun c_13 => ?_)
          · have _ := c_13
            refine lv_iconst (v := iI 1) hx hb dX10_readEntry_42 (by decide) ?_
            refine lv_goto (tgt := 47) hx hb dX10_readEntry_43 (by decide) ?_
            exact cv_i (congrArg iI (Eq.symm (show (zB (uK (uH S (M 9) (M 10)))) = 1 from by unfold uK; first | (rw [decide_eq_true (by omega)]; rfl) | (rw [decide_eq_false (by omega)]; rfl)))) K
          · have _ := c_13
            refine lv_iload_n hx hb dX10_readEntry_30 rfl (lv_at hl 0 rfl) ?_
            refine lv_bipush (v := iI 98) hx hb dX10_readEntry_31 (by decide) ?_
            refine zi_icmp_eq (tgt := 42) hx hb ⟨by omega, by omega⟩ ⟨by decide, by decide⟩ dX10_readEntry_33 (by decide) (fun c_14 => ?_) (fun c_14 => ?_)
            · have _ := c_14
              refine lv_iconst (v := iI 1) hx hb dX10_readEntry_42 (by decide) ?_
              refine lv_goto (tgt := 47) hx hb dX10_readEntry_43 (by decide) ?_
              exact cv_i (congrArg iI (Eq.symm (show (zB (uK (uH S (M 9) (M 10)))) = 1 from by unfold uK; first | (rw [decide_eq_true (by omega)]; rfl) | (rw [decide_eq_false (by omega)]; rfl)))) K
            · have _ := c_14
              refine lv_iload_n hx hb dX10_readEntry_36 rfl (lv_at hl 0 rfl) ?_
              refine lv_bipush (v := iI 104) hx hb dX10_readEntry_37 (by decide) ?_
              refine zi_icmp_ne (tgt := 46) hx hb ⟨by omega, by omega⟩ ⟨by decide, by decide⟩ dX10_readEntry_39 (by decide) (fun c_15 => ?_) (fun c_15 => ?_)
              · have _ := c_15
                refine lv_iconst (v := iI 0) hx hb dX10_readEntry_46 (by decide) ?_
                exact cv_i (congrArg iI (Eq.symm (show (zB (uK (uH S (M 9) (M 10)))) = 0 from by unfold uK; first | (rw [decide_eq_true (by omega)]; rfl) | (rw [decide_eq_false (by omega)]; rfl)))) K
              · have _ := c_15
                refine lv_iconst (v := iI 1) hx hb dX10_readEntry_42 (by decide) ?_
                refine lv_goto (tgt := 47) hx hb dX10_readEntry_43 (by decide) ?_
                exact cv_i (congrArg iI (Eq.symm (show (zB (uK (uH S (M 9) (M 10)))) = 1 from by unfold uK; first | (rw [decide_eq_true (by omega)]; rfl) | (rw [decide_eq_false (by omega)]; rfl)))) K

theorem cd_X10_readAll : cd yX10_readAll 0 := by decide +kernel
theorem in_X10_readAll_X10 : ∀ w ∈ wsX100, w ∈ wsX10_readAll := by decide +kernel
set_option maxHeartbeats 4000000 in
set_option maxRecDepth 100000 in
theorem c_X10_readAll (l : Launch) (g : va_G) (τ : Nat → ClassId) (ma : Nat → Nat) (M : Nat → Int) (S : Nat → Int) (hSB : SB S) (D0 : Nat → Int) (h9 : 0 ≤ M 9 ∧ M 9 ≤ 120)  : Met l yX10_readAll wsX10_readAll { frames := 5, cells := 0, slots := 0, locals := 120 } (va_Pc [Value.ref (ma 0)] (rwW g τ ([moO ma M, arC (ma 8) (τ 0) 120 S, arC (ma 3) (τ 0) 291 D0]))) (rwQ g (fun v w => v = some (Value.int (iI (uErr S (M 9)))) ∧ w = [moO ma (updZ (updZ (updZ M 10 (uAll S (M 9)).1) 11 (uAll S (M 9)).2.1) 12 (uAll S (M 9)).2.2.1), arC (ma 8) (τ 0) 120 S, arC (ma 3) (τ 0) 291 (flR (uAll S (M 9)).2.2.2)]) (inW ([moO ma M, arC (ma 8) (τ 0) 120 S, arC (ma 3) (τ 0) 291 D0]))) 0 0 (inW ([moO ma M, arC (ma 8) (τ 0) 120 S, arC (ma 3) (τ 0) 291 D0])) := by
  refine rwMet (cc := cX10_readAll) (maxL := 1) (ret := (some .int)) (lv := [(0, Value.ref (ma 0))]) (by decide) rfl (Nat.le_of_ble_eq_true rfl) rfl ?_
  intro p e s m below meth c hx hb hr hml hts hown hlocks A H hP hD hS hK ls hl
  refine lv_aload_n hx hb dX10_readAll_0 rfl (lv_at hl 0 rfl) ?_
  refine lv_iconst (v := iI 0) hx hb dX10_readAll_1 (by decide) ?_
  refine va_put (D := g) (ci := 10) (v := Value.int (iI 0)) (ty := .int) (C := RX10) (T := TX10) (N := 18) hx hb hts in_X10_readAll_X10 tyX10 tyX10_ok nmX10 hown hK.1 hP hD hS 0 (rfl) rfl 10 (by decide) (hts _ (List.mem_of_getElem? (i := 1) rfl) : (Cond.fieldLink RX10 153 "CordSealsModel" "at" "I").before _ s = true) (fun _ h9 => h9) rfl (by decide +kernel) rfl rfl (Nat.le_of_ble_eq_true rfl) dX10_readAll_2 (fun H locs hP hD hS => ?_)
  have hP : va_P g vwCl ([moO ma (updZ M 10 0), arC (ma 8) (τ 0) 120 S, arC (ma 3) (τ 0) 291 D0]) H := hP
  have hD : va_D A ([moO ma (updZ M 10 0), arC (ma 8) (τ 0) 120 S, arC (ma 3) (τ 0) 291 D0]) := hD
  refine lv_aload_n hx hb dX10_readAll_5 rfl (lv_at hl 0 rfl) ?_
  refine lv_iconst (v := iI 1) hx hb dX10_readAll_6 (by decide) ?_
  refine va_put (D := g) (ci := 10) (v := Value.int (iI 1)) (ty := .boolean) (C := RX10) (T := TX10) (N := 18) hx hb hts in_X10_readAll_X10 tyX10 tyX10_ok nmX10 hown hK.1 hP hD hS 0 (rfl) rfl 11 (by decide) (hts _ (List.mem_of_getElem? (i := 2) rfl) : (Cond.fieldLink RX10 156 "CordSealsModel" "good" "Z").before _ s = true) (fun _ h9 => h9) rfl (by decide +kernel) (by first | rfl | decide | exact nar_b2 _) (by first | rfl | decide | exact fit_b2 _) (Nat.le_of_ble_eq_true rfl) dX10_readAll_7 (fun H locs hP hD hS => ?_)
  have hP : va_P g vwCl ([moO ma (updZ (updZ M 10 0) 11 1), arC (ma 8) (τ 0) 120 S, arC (ma 3) (τ 0) 291 D0]) H := hP
  have hD : va_D A ([moO ma (updZ (updZ M 10 0) 11 1), arC (ma 8) (τ 0) 120 S, arC (ma 3) (τ 0) 291 D0]) := hD
  refine lv_aload_n hx hb dX10_readAll_10 rfl (lv_at hl 0 rfl) ?_
  refine lv_iconst (v := iI 0) hx hb dX10_readAll_11 (by decide) ?_
  refine va_put (D := g) (ci := 10) (v := Value.int (iI 0)) (ty := .int) (C := RX10) (T := TX10) (N := 18) hx hb hts in_X10_readAll_X10 tyX10 tyX10_ok nmX10 hown hK.1 hP hD hS 0 (rfl) rfl 12 (by decide) (hts _ (List.mem_of_getElem? (i := 3) rfl) : (Cond.fieldLink RX10 172 "CordSealsModel" "leftOut" "I").before _ s = true) (fun _ h9 => h9) rfl (by decide +kernel) rfl rfl (Nat.le_of_ble_eq_true rfl) dX10_readAll_12 (fun H locs hP hD hS => ?_)
  have hP : va_P g vwCl ([moO ma (updZ (updZ (updZ M 10 0) 11 1) 12 0), arC (ma 8) (τ 0) 120 S, arC (ma 3) (τ 0) 291 D0]) H := hP
  have hD : va_D A ([moO ma (updZ (updZ (updZ M 10 0) 11 1) 12 0), arC (ma 8) (τ 0) 120 S, arC (ma 3) (τ 0) 291 D0]) := hD
  refine lv_aload_n hx hb dX10_readAll_15 rfl (lv_at hl 0 rfl) ?_
  refine va_get (D := g) (ci := 10) (v := Value.ref (ma 3)) (C := RX10) (T := TX10) (N := 18) hx hb hts in_X10_readAll_X10 hown hK.1 hP 0 (rfl) rfl 3 (by decide) (hts _ (List.mem_of_getElem? (i := 4) rfl) : (Cond.fieldLink RX10 16 "CordSealsModel" "read" "[I").before _ s = true) (fun _ h9 => h9) rfl dX10_readAll_16 ?_
  refine rw_S (As := [Value.ref (ma 3)]) (rest := []) ⟨hx, hb, hml, hown, hts⟩ (c_X10_fresh l g τ (ma 3) D0) gX10_readAll_X10_fresh cd_X10_fresh rfl ⟨rfl, rfl⟩ ⟨Nat.le_of_ble_eq_true rfl, Nat.le_of_ble_eq_true rfl⟩ hK hP hD hS [2] (rfl) (by decide) rfl hl rfl (Nat.le_of_ble_eq_true rfl) dX10_readAll_19 ⟨Nat.le_of_ble_eq_true rfl, Nat.le_of_ble_eq_true rfl⟩ (fun v w h => by rw [h.2]; rfl) (fun v w1 H locs hZ hP hD hS => ?_)
  obtain ⟨rfl, rfl⟩ := hZ
  have hP : va_P g vwCl ([moO ma (updZ (updZ (updZ M 10 0) 11 1) 12 0), arC (ma 8) (τ 0) 120 S, arC (ma 3) (τ 0) 291 (flR R0z)]) H := hP
  have hD : va_D A ([moO ma (updZ (updZ (updZ M 10 0) 11 1) 12 0), arC (ma 8) (τ 0) 120 S, arC (ma 3) (τ 0) 291 (flR R0z)]) := hD
  refine tl_none ?_
  refine lv_aload_n hx hb dX10_readAll_22 rfl (lv_at hl 0 rfl) ?_
  refine rw_V (As := []) (rest := []) ⟨hx, hb, hml, hown, hts⟩ (c_X10_readEntry l g τ ma (updZ (updZ (updZ M 10 0) 11 1) 12 0) S hSB (by show PI (M 9) 0 1; exact ⟨by omega, by omega, by omega, by omega, by omega⟩) R0z SI_z) gX10_readAll_X10_readEntry cd_X10_readEntry rfl rfl ⟨rfl, rfl⟩ ⟨Nat.le_of_ble_eq_true rfl, Nat.le_of_ble_eq_true rfl⟩ hK hP hD hS [0, 1, 2] (rfl) (by decide) 0 rfl rfl rfl rfl hl rfl (Nat.le_of_ble_eq_true rfl) dX10_readAll_23 ⟨Nat.le_of_ble_eq_true rfl, Nat.le_of_ble_eq_true rfl⟩ (fun v w h => by obtain ⟨x9, -, -, rfl⟩ := h; rfl) (fun v w1 H locs hZ hP hD hS => ?_)
  obtain ⟨r_1, her_1, rfl, rfl⟩ := hZ
  have hP : va_P g vwCl ([moO ma (updZ (updZ (updZ M 10 r_1.1) 11 r_1.2.1) 12 r_1.2.2.1), arC (ma 8) (τ 0) 120 S, arC (ma 3) (τ 0) 291 (flR r_1.2.2.2)]) H := hP
  have hD : va_D A ([moO ma (updZ (updZ (updZ M 10 r_1.1) 11 r_1.2.1) 12 r_1.2.2.1), arC (ma 8) (τ 0) 120 S, arC (ma 3) (τ 0) 291 (flR r_1.2.2.2)]) := hD
  have her_1 : r_1 = uEn S (M 9) 0 1 0 R0z := her_1
  have hkr_1 : uKp (M 9) 0 1 r_1 := by (rw [her_1]; exact (uEn_k hSB (show PI (M 9) 0 1 from ⟨by omega, by omega, by omega, by omega, by omega⟩) SI_z).1)
  obtain ⟨hkr_11, hkr_12, hkr_13, hkr_14, hkr_15⟩ := id hkr_1.1
  refine tl_none ?_
  have hP : va_P g vwCl ([moO ma (updZ (updZ (updZ M 10 ((uLp S (M 9) 0).1)) 11 ((uLp S (M 9) 0).2.1)) 12 ((uLp S (M 9) 0).2.2.1)), arC (ma 8) (τ 0) 120 S, arC (ma 3) (τ 0) 291 (flR ((uLp S (M 9) 0).2.2.2))]) H := by rw [show uLp S (M 9) 0 = r_1 from (her_1).symm]; exact hP
  have hD : va_D A ([moO ma (updZ (updZ (updZ M 10 ((uLp S (M 9) 0).1)) 11 ((uLp S (M 9) 0).2.1)) 12 ((uLp S (M 9) 0).2.2.1)), arC (ma 8) (τ 0) 120 S, arC (ma 3) (τ 0) 291 (flR ((uLp S (M 9) 0).2.2.2))]) := by rw [show uLp S (M 9) 0 = r_1 from (her_1).symm]; exact hD
  refine lp_upW (fun i => [(0, Value.ref (ma 0))]) (fun i => [moO ma (updZ (updZ (updZ M 10 ((uLp S (M 9) i).1)) 11 ((uLp S (M 9) i).2.1)) 12 ((uLp S (M 9) i).2.2.1)), arC (ma 8) (τ 0) 120 S, arC (ma 3) (τ 0) 291 (flR ((uLp S (M 9) i).2.2.2))]) (fun i => (M 9 - (uLp S (M 9) i).1) + (uLp S (M 9) i).2.1 + (i : Int) ≤ 121) (122) (0) (by omega) hP hD hS (by rw [show uLp S (M 9) 0 = r_1 from (her_1).symm]; omega) (lv_eq (lv_sub hl [0] rfl) (by show [(0, Value.ref (ma 0))] = [(0, Value.ref (ma 0))]; rfl)) (fun i h0_i hi_i hI_i ih_26 H locs hP hD hS ls hl => ?_)
  have hlk := uLp_k (S := S) hSB (n := M 9) ⟨by omega, by omega⟩ i
  obtain ⟨hk1, hk2, hk3, hk4, hk5⟩ := id hlk.1
  refine lv_aload_n hx hb dX10_readAll_26 rfl (lv_at hl 0 rfl) ?_
  refine va_get (D := g) (ci := 10) (v := Value.int (iI ((uLp S (M 9) i).2.1))) (C := RX10) (T := TX10) (N := 18) hx hb hts in_X10_readAll_X10 hown hK.1 hP 0 (rfl) rfl 11 (by decide) (hts _ (List.mem_of_getElem? (i := 2) rfl) : (Cond.fieldLink RX10 156 "CordSealsModel" "good" "Z").before _ s = true) (fun _ h9 => h9) rfl dX10_readAll_27 ?_
  refine zi_if_eq (tgt := 69) hx hb ⟨by omega, by omega⟩ dX10_readAll_30 (by decide) (fun c_2 => ?_) (fun c_2 => ?_)
  · have _ := c_2
    refine lv_aload_n hx hb dX10_readAll_69 rfl (lv_at hl 0 rfl) ?_
    refine va_get (D := g) (ci := 10) (v := Value.int (iI ((uLp S (M 9) i).2.1))) (C := RX10) (T := TX10) (N := 18) hx hb hts in_X10_readAll_X10 hown hK.1 hP 0 (rfl) rfl 11 (by decide) (hts _ (List.mem_of_getElem? (i := 2) rfl) : (Cond.fieldLink RX10 156 "CordSealsModel" "good" "Z").before _ s = true) (fun _ h9 => h9) rfl dX10_readAll_70 ?_
    refine zi_if_eq (tgt := 80) hx hb ⟨by omega, by omega⟩ dX10_readAll_73 (by decide) (fun c_3 => ?_) (fun c_3 => ?_)
    · have _ := c_3
      refine lv_aload_n hx hb dX10_readAll_80 rfl (lv_at hl 0 rfl) ?_
      refine va_get (D := g) (ci := 10) (v := Value.int (iI ((uLp S (M 9) i).1))) (C := RX10) (T := TX10) (N := 18) hx hb hts in_X10_readAll_X10 hown hK.1 hP 0 (rfl) rfl 10 (by decide) (hts _ (List.mem_of_getElem? (i := 1) rfl) : (Cond.fieldLink RX10 153 "CordSealsModel" "at" "I").before _ s = true) (fun _ h9 => h9) rfl dX10_readAll_81 ?_
      exact rw_iret hx hb hr hlocks hP hS (by (have hs := uLp_stop (S := S) (n := M 9) (i := i) (decide_eq_false (by omega)) 122 hi_i); (have ha : uAll S (M 9) = uLp S (M 9) i := hs); first | (exfalso; omega) | (rw [uErr, ha]; exact ⟨by rw [if_neg (by omega)], rfl⟩) | (rw [uErr, ha]; exact ⟨by rw [if_pos (by omega)], rfl⟩)) dX10_readAll_84
    · have _ := c_3
      refine lv_iconst (v := iI (-1)) hx hb dX10_readAll_76 (by decide) ?_
      refine lv_goto (tgt := 84) hx hb dX10_readAll_77 (by decide) ?_
      exact rw_iret hx hb hr hlocks hP hS (by (have hs := uLp_stop (S := S) (n := M 9) (i := i) (decide_eq_false (by omega)) 122 hi_i); (have ha : uAll S (M 9) = uLp S (M 9) i := hs); first | (exfalso; omega) | (rw [uErr, ha]; exact ⟨by rw [if_neg (by omega)], rfl⟩) | (rw [uErr, ha]; exact ⟨by rw [if_pos (by omega)], rfl⟩)) dX10_readAll_84
  · have _ := c_2
    refine lv_aload_n hx hb dX10_readAll_33 rfl (lv_at hl 0 rfl) ?_
    refine va_get (D := g) (ci := 10) (v := Value.int (iI ((uLp S (M 9) i).1))) (C := RX10) (T := TX10) (N := 18) hx hb hts in_X10_readAll_X10 hown hK.1 hP 0 (rfl) rfl 10 (by decide) (hts _ (List.mem_of_getElem? (i := 1) rfl) : (Cond.fieldLink RX10 153 "CordSealsModel" "at" "I").before _ s = true) (fun _ h9 => h9) rfl dX10_readAll_34 ?_
    refine lv_aload_n hx hb dX10_readAll_37 rfl (lv_at hl 0 rfl) ?_
    refine va_get (D := g) (ci := 10) (v := Value.int (iI (M 9))) (C := RX10) (T := TX10) (N := 18) hx hb hts in_X10_readAll_X10 hown hK.1 hP 0 (rfl) rfl 9 (by decide) (hts _ (List.mem_of_getElem? (i := 5) rfl) : (Cond.fieldLink RX10 147 "CordSealsModel" "length" "I").before _ s = true) (fun _ h9 => h9) rfl dX10_readAll_38 ?_
    refine zi_icmp_ge (tgt := 69) hx hb ⟨by omega, by omega⟩ ⟨by omega, by omega⟩ dX10_readAll_41 (by decide) (fun c_4 => ?_) (fun c_4 => ?_)
    · have _ := c_4
      refine lv_aload_n hx hb dX10_readAll_69 rfl (lv_at hl 0 rfl) ?_
      refine va_get (D := g) (ci := 10) (v := Value.int (iI ((uLp S (M 9) i).2.1))) (C := RX10) (T := TX10) (N := 18) hx hb hts in_X10_readAll_X10 hown hK.1 hP 0 (rfl) rfl 11 (by decide) (hts _ (List.mem_of_getElem? (i := 2) rfl) : (Cond.fieldLink RX10 156 "CordSealsModel" "good" "Z").before _ s = true) (fun _ h9 => h9) rfl dX10_readAll_70 ?_
      refine zi_if_eq (tgt := 80) hx hb ⟨by omega, by omega⟩ dX10_readAll_73 (by decide) (fun c_5 => ?_) (fun c_5 => ?_)
      · have _ := c_5
        refine lv_aload_n hx hb dX10_readAll_80 rfl (lv_at hl 0 rfl) ?_
        refine va_get (D := g) (ci := 10) (v := Value.int (iI ((uLp S (M 9) i).1))) (C := RX10) (T := TX10) (N := 18) hx hb hts in_X10_readAll_X10 hown hK.1 hP 0 (rfl) rfl 10 (by decide) (hts _ (List.mem_of_getElem? (i := 1) rfl) : (Cond.fieldLink RX10 153 "CordSealsModel" "at" "I").before _ s = true) (fun _ h9 => h9) rfl dX10_readAll_81 ?_
        exact rw_iret hx hb hr hlocks hP hS (by (have hs := uLp_stop (S := S) (n := M 9) (i := i) (decide_eq_false (by omega)) 122 hi_i); (have ha : uAll S (M 9) = uLp S (M 9) i := hs); first | (exfalso; omega) | (rw [uErr, ha]; exact ⟨by rw [if_neg (by omega)], rfl⟩) | (rw [uErr, ha]; exact ⟨by rw [if_pos (by omega)], rfl⟩)) dX10_readAll_84
      · have _ := c_5
        refine lv_iconst (v := iI (-1)) hx hb dX10_readAll_76 (by decide) ?_
        refine lv_goto (tgt := 84) hx hb dX10_readAll_77 (by decide) ?_
        exact rw_iret hx hb hr hlocks hP hS (by (have hs := uLp_stop (S := S) (n := M 9) (i := i) (decide_eq_false (by omega)) 122 hi_i); (have ha : uAll S (M 9) = uLp S (M 9) i := hs); first | (exfalso; omega) | (rw [uErr, ha]; exact ⟨by rw [if_neg (by omega)], rfl⟩) | (rw [uErr, ha]; exact ⟨by rw [if_pos (by omega)], rfl⟩)) dX10_readAll_84
    · have _ := c_4
      refine lv_aload_n hx hb dX10_readAll_44 rfl (lv_at hl 0 rfl) ?_
      refine jn (F0 m 59 ls (Value.int (iI (zB (decide (uH S (M 9) (uLp S (M 9) i).1 = 59)))) :: Value.ref (ma 0) :: [])) ?_ (fun K => ?_)
      · skip
        refine rw_V (As := [Value.int (iI (zB (decide (uH S (M 9) (uLp S (M 9) i).1 = 59))))]) (rest := []) ⟨hx, hb, hml, hown, hts⟩ (c_X10_eat l g τ ma (updZ (updZ (updZ M 10 ((uLp S (M 9) i).1)) 11 ((uLp S (M 9) i).2.1)) 12 ((uLp S (M 9) i).2.2.1)) (decide (uH S (M 9) (uLp S (M 9) i).1 = 59)) (by show 0 ≤ (uLp S (M 9) i).2.1 ∧ (uLp S (M 9) i).2.1 ≤ 1; omega)) gX10_readAll_X10_eat cd_X10_eat rfl rfl ⟨rfl, rfl⟩ ⟨Nat.le_of_ble_eq_true rfl, Nat.le_of_ble_eq_true rfl⟩ hK hP hD hS [0] (rfl) (by decide) 0 rfl rfl rfl rfl hl rfl (Nat.le_of_ble_eq_true rfl) dX10_readAll_59 ⟨Nat.le_of_ble_eq_true rfl, Nat.le_of_ble_eq_true rfl⟩ (fun v w h => by obtain ⟨x9, -, -, rfl⟩ := h; rfl) (fun v w1 H locs hZ hP hD hS => ?_)
        obtain ⟨x_6, hex_6, rfl, rfl⟩ := hZ
        have hP : va_P g vwCl ([moO ma (updZ (updZ (updZ M 10 x_6.1) 11 x_6.2) 12 ((uLp S (M 9) i).2.2.1)), arC (ma 8) (τ 0) 120 S, arC (ma 3) (τ 0) 291 (flR ((uLp S (M 9) i).2.2.2))]) H := hP
        have hD : va_D A ([moO ma (updZ (updZ (updZ M 10 x_6.1) 11 x_6.2) 12 ((uLp S (M 9) i).2.2.1)), arC (ma 8) (τ 0) 120 S, arC (ma 3) (τ 0) 291 (flR ((uLp S (M 9) i).2.2.2))]) := hD
        have hex_6 : x_6 = uE ((uLp S (M 9) i).1) ((uLp S (M 9) i).2.1) (decide (uH S (M 9) (uLp S (M 9) i).1 = 59)) := hex_6
        have hmx_6 := uE_m ((uLp S (M 9) i).1) ((uLp S (M 9) i).2.1) (decide (uH S (M 9) (uLp S (M 9) i).1 = 59))
        rw [← hex_6] at hmx_6
        have hwx_6 := uE_ok (show PI (M 9) ((uLp S (M 9) i).1) ((uLp S (M 9) i).2.1) from ⟨by omega, by omega, by omega, by omega, by omega⟩) (b := (decide (uH S (M 9) (uLp S (M 9) i).1 = 59))) (fun q => uH_n (S := S) (by have := of_decide_eq_true q; omega))
        rw [← hex_6] at hwx_6
        obtain ⟨hwx_61, hwx_62, hwx_63, hwx_64, hwx_65⟩ := hwx_6
        refine tl_none ?_
        refine lv_aload_n hx hb dX10_readAll_62 rfl (lv_at hl 0 rfl) ?_
        refine rw_V (As := []) (rest := []) ⟨hx, hb, hml, hown, hts⟩ (c_X10_readEntry l g τ ma (updZ (updZ (updZ M 10 x_6.1) 11 x_6.2) 12 ((uLp S (M 9) i).2.2.1)) S hSB (by show PI (M 9) x_6.1 x_6.2; exact ⟨by omega, by omega, by omega, by omega, by omega⟩) ((uLp S (M 9) i).2.2.2) hlk.2) gX10_readAll_X10_readEntry cd_X10_readEntry rfl rfl ⟨rfl, rfl⟩ ⟨Nat.le_of_ble_eq_true rfl, Nat.le_of_ble_eq_true rfl⟩ hK hP hD hS [0, 1, 2] (rfl) (by decide) 0 rfl rfl rfl rfl hl rfl (Nat.le_of_ble_eq_true rfl) dX10_readAll_63 ⟨Nat.le_of_ble_eq_true rfl, Nat.le_of_ble_eq_true rfl⟩ (fun v w h => by obtain ⟨x9, -, -, rfl⟩ := h; rfl) (fun v w1 H locs hZ hP hD hS => ?_)
        obtain ⟨r_7, her_7, rfl, rfl⟩ := hZ
        have hP : va_P g vwCl ([moO ma (updZ (updZ (updZ M 10 r_7.1) 11 r_7.2.1) 12 r_7.2.2.1), arC (ma 8) (τ 0) 120 S, arC (ma 3) (τ 0) 291 (flR r_7.2.2.2)]) H := hP
        have hD : va_D A ([moO ma (updZ (updZ (updZ M 10 r_7.1) 11 r_7.2.1) 12 r_7.2.2.1), arC (ma 8) (τ 0) 120 S, arC (ma 3) (τ 0) 291 (flR r_7.2.2.2)]) := hD
        have her_7 : r_7 = uEn S (M 9) x_6.1 x_6.2 ((uLp S (M 9) i).2.2.1) ((uLp S (M 9) i).2.2.2) := her_7
        have hkr_7 : uKp (M 9) x_6.1 x_6.2 r_7 := by (rw [her_7]; exact (uEn_k hSB (show PI (M 9) x_6.1 x_6.2 from ⟨by omega, by omega, by omega, by omega, by omega⟩) hlk.2).1)
        obtain ⟨hkr_71, hkr_72, hkr_73, hkr_74, hkr_75⟩ := id hkr_7.1
        refine tl_none ?_
        refine lv_goto (tgt := 26) hx hb dX10_readAll_66 (by decide) ?_
        have hw_8 : [moO ma (updZ (updZ (updZ M 10 r_7.1) 11 r_7.2.1) 12 r_7.2.2.1), arC (ma 8) (τ 0) 120 S, arC (ma 3) (τ 0) 291 (flR r_7.2.2.2)] = [moO ma (updZ (updZ (updZ M 10 ((uLp S (M 9) (i + 1)).1)) 11 ((uLp S (M 9) (i + 1)).2.1)) 12 ((uLp S (M 9) (i + 1)).2.2.1)), arC (ma 8) (τ 0) 120 S, arC (ma 3) (τ 0) 291 (flR ((uLp S (M 9) (i + 1)).2.2.2))] := by rw [uLp, if_pos (show uLg (M 9) (uLp S (M 9) i) = true from decide_eq_true ⟨by omega, by omega⟩), uLs, ← hex_6, ← her_7]
        rw [hw_8] at hP hD
        exact ih_26 (by omega) (by (have hst := uLs_k (S := S) hSB hlk (by omega)); (have hgo : uLg (M 9) (uLp S (M 9) i) = true := decide_eq_true ⟨by omega, by omega⟩); rw [uLp, if_pos hgo]; (have := hst.2); omega) _ _ _ hP hD hS (lv_eq (lv_sub hl [0] rfl) (by show [(0, Value.ref (ma 0))] = [(0, Value.ref (ma 0))]; rfl))
      · skip
        refine lv_aload_n hx hb dX10_readAll_45 rfl (lv_at hl 0 rfl) ?_
        refine ro_V (As := []) (rest := [Value.ref (ma 0)]) (v := some (Value.int (iI (uH S (M 9) ((uLp S (M 9) i).1))))) ⟨hx, hb, hml, hown, hts⟩ (c_X10_here l g τ ma (updZ (updZ (updZ M 10 ((uLp S (M 9) i).1)) 11 ((uLp S (M 9) i).2.1)) 12 ((uLp S (M 9) i).2.2.1)) S hSB (by show PI (M 9) ((uLp S (M 9) i).1) ((uLp S (M 9) i).2.1); exact ⟨by omega, by omega, by omega, by omega, by omega⟩)) gX10_readAll_X10_here cd_X10_here rfl rfl ⟨rfl, rfl⟩ ⟨Nat.le_of_ble_eq_true rfl, Nat.le_of_ble_eq_true rfl⟩ hK (cut_P (is := [0, 1]) hP rfl) 0 rfl rfl rfl rfl hl rfl (Nat.le_of_ble_eq_true rfl) dX10_readAll_46 ⟨Nat.le_of_ble_eq_true rfl, Nat.le_of_ble_eq_true rfl⟩ ?_
        refine tl_some ?_
        have huh := uH_b hSB (M 9) ((uLp S (M 9) i).1)
        refine lv_bipush (v := iI 59) hx hb dX10_readAll_49 (by decide) ?_
        refine zi_icmp_ne (tgt := 58) hx hb ⟨by omega, by omega⟩ ⟨by decide, by decide⟩ dX10_readAll_51 (by decide) (fun c_9 => ?_) (fun c_9 => ?_)
        · have _ := c_9
          refine lv_iconst (v := iI 0) hx hb dX10_readAll_58 (by decide) ?_
          exact cv_i (congrArg iI (Eq.symm (show (zB (decide (uH S (M 9) (uLp S (M 9) i).1 = 59))) = 0 from by first | (rw [decide_eq_true (by omega)]; rfl) | (rw [decide_eq_false (by omega)]; rfl)))) K
        · have _ := c_9
          refine lv_iconst (v := iI 1) hx hb dX10_readAll_54 (by decide) ?_
          refine lv_goto (tgt := 59) hx hb dX10_readAll_55 (by decide) ?_
          exact cv_i (congrArg iI (Eq.symm (show (zB (decide (uH S (M 9) (uLp S (M 9) i).1 = 59))) = 1 from by first | (rw [decide_eq_true (by omega)]; rfl) | (rw [decide_eq_false (by omega)]; rfl)))) K

theorem cd_X10_errorPosition : cd yX10_errorPosition 0 := by decide +kernel
theorem in_X10_errorPosition_X10 : ∀ w ∈ wsX100, w ∈ wsX10_errorPosition := by decide +kernel
set_option maxHeartbeats 2000000 in
set_option maxRecDepth 100000 in
theorem c_X10_errorPosition (l : Launch) (g : va_G) (τ : Nat → ClassId) (ma : Nat → Nat) (M : Nat → Int) (S : Nat → Int) (hSB : SB S) (D0 : Nat → Int) (h9 : 0 ≤ M 9 ∧ M 9 ≤ 120)  : Met l yX10_errorPosition wsX10_errorPosition { frames := 6, cells := 0, slots := 0, locals := 140 } (va_Pc [Value.ref (ma 0)] (rwW g τ ([moO ma M, arC (ma 8) (τ 0) 120 S, arC (ma 3) (τ 0) 291 D0]))) (rwQ g (fun v w => ∃ (M2 D2 : Nat → Int), M2 0 = 0 ∧ M2 5 = M 5 ∧ M2 9 = M 9 ∧ v = some (Value.int (iI (uErr S (M 9)))) ∧ w = [moO ma M2, arC (ma 8) (τ 0) 120 S, arC (ma 3) (τ 0) 291 D2]) (inW ([moO ma M, arC (ma 8) (τ 0) 120 S, arC (ma 3) (τ 0) 291 D0]))) 0 0 (inW ([moO ma M, arC (ma 8) (τ 0) 120 S, arC (ma 3) (τ 0) 291 D0])) := by
  refine rwMet (cc := cX10_errorPosition) (maxL := 1) (ret := (some .int)) (lv := [(0, Value.ref (ma 0))]) (by decide) rfl (Nat.le_of_ble_eq_true rfl) rfl ?_
  intro p e s m below meth c hx hb hr hml hts hown hlocks A H hP hD hS hK ls hl
  refine lv_aload_n hx hb dX10_errorPosition_0 rfl (lv_at hl 0 rfl) ?_
  refine lv_iconst (v := iI 0) hx hb dX10_errorPosition_1 (by decide) ?_
  refine va_put (D := g) (ci := 10) (v := Value.int (iI 0)) (ty := .int) (C := RX10) (T := TX10) (N := 18) hx hb hts in_X10_errorPosition_X10 tyX10 tyX10_ok nmX10 hown hK.1 hP hD hS 0 (rfl) rfl 0 (by decide) (hts _ (List.mem_of_getElem? (i := 1) rfl) : (Cond.fieldLink RX10 39 "CordSealsModel" "refusal" "I").before _ s = true) (fun _ h9 => h9) rfl (by decide +kernel) rfl rfl (Nat.le_of_ble_eq_true rfl) dX10_errorPosition_2 (fun H locs hP hD hS => ?_)
  have hP : va_P g vwCl ([moO ma (updZ M 0 0), arC (ma 8) (τ 0) 120 S, arC (ma 3) (τ 0) 291 D0]) H := hP
  have hD : va_D A ([moO ma (updZ M 0 0), arC (ma 8) (τ 0) 120 S, arC (ma 3) (τ 0) 291 D0]) := hD
  refine lv_aload_n hx hb dX10_errorPosition_5 rfl (lv_at hl 0 rfl) ?_
  refine rw_V (As := []) (rest := []) ⟨hx, hb, hml, hown, hts⟩ (c_X10_readAll l g τ ma (updZ M 0 0) S hSB D0 (by show 0 ≤ M 9 ∧ M 9 ≤ 120; omega)) gX10_errorPosition_X10_readAll cd_X10_readAll rfl rfl ⟨rfl, rfl⟩ ⟨Nat.le_of_ble_eq_true rfl, Nat.le_of_ble_eq_true rfl⟩ hK hP hD hS [0, 1, 2] (rfl) (by decide) 0 rfl rfl rfl rfl hl rfl (Nat.le_of_ble_eq_true rfl) dX10_errorPosition_6 ⟨Nat.le_of_ble_eq_true rfl, Nat.le_of_ble_eq_true rfl⟩ (fun v w h => by rw [h.2]; rfl) (fun v w1 H locs hZ hP hD hS => ?_)
  obtain ⟨rfl, rfl⟩ := hZ
  have hP : va_P g vwCl ([moO ma (updZ (updZ (updZ (updZ M 0 0) 10 ((uAll S (M 9)).1)) 11 ((uAll S (M 9)).2.1)) 12 ((uAll S (M 9)).2.2.1)), arC (ma 8) (τ 0) 120 S, arC (ma 3) (τ 0) 291 (flR ((uAll S (M 9)).2.2.2))]) H := hP
  have hD : va_D A ([moO ma (updZ (updZ (updZ (updZ M 0 0) 10 ((uAll S (M 9)).1)) 11 ((uAll S (M 9)).2.1)) 12 ((uAll S (M 9)).2.2.1)), arC (ma 8) (τ 0) 120 S, arC (ma 3) (τ 0) 291 (flR ((uAll S (M 9)).2.2.2))]) := hD
  have huk := uLp_k (S := S) hSB (n := (M 9)) (by omega) 122
  have hur : -1 ≤ uErr S (M 9) ∧ uErr S (M 9) ≤ 120 := by (obtain ⟨q1, q2, q3, -, -⟩ := huk.1); unfold uErr uAll; split <;> omega
  refine tl_some ?_
  exact rw_iret hx hb hr hlocks hP hS (⟨(updZ (updZ (updZ (updZ M 0 0) 10 ((uAll S (M 9)).1)) 11 ((uAll S (M 9)).2.1)) 12 ((uAll S (M 9)).2.2.1)), _, rfl, rfl, rfl, rfl, rfl⟩) dX10_errorPosition_9

theorem cd_X10_load : cd yX10_load 0 := by decide +kernel
theorem in_X10_load_X10 : ∀ w ∈ wsX100, w ∈ wsX10_load := by decide +kernel
set_option maxHeartbeats 4000000 in
set_option maxRecDepth 100000 in
theorem c_X10_load (l : Launch) (g : va_G) (τ : Nat → ClassId) (ma : Nat → Nat) (M : Nat → Int) (R : Nat → Nat → Int) (hI : SI R) (S : Nat → Int) (hSB : SB S) (D0 : Nat → Int) (ik : Nat → Int) (h9 : 0 ≤ M 9 ∧ M 9 ≤ 120)  : Met l yX10_load wsX10_load { frames := 6, cells := 0, slots := 0, locals := 140 } (va_Pc [Value.ref (ma 0)] (rwW g τ ([moO ma M, arC (ma 1) (τ 0) 291 (flR R), arC (ma 8) (τ 0) 120 S, arC (ma 3) (τ 0) 291 D0, arC (ma 7) (τ 1) 2 ik]))) (rwQ g (fun v w => ∃ (M2 D2 : Nat → Int), M2 9 = M 9 ∧ ((¬ uErr S (M 9) = -1 ∧ v = some (Value.int (iI 0)) ∧ M2 0 = 1 ∧ M2 5 = M 5 ∧ w = [moO ma M2, arC (ma 1) (τ 0) 291 (flR R), arC (ma 8) (τ 0) 120 S, arC (ma 3) (τ 0) 291 D2, arC (ma 7) (τ 1) 2 ik]) ∨ (uErr S (M 9) = -1 ∧ v = some (Value.int (iI (uAll S (M 9)).2.2.1)) ∧ M2 0 = 0 ∧ M2 5 = 0 ∧ w = [moO ma M2, arC (ma 1) (τ 0) 291 (flR (uAll S (M 9)).2.2.2), arC (ma 8) (τ 0) 120 S, arC (ma 3) (τ 0) 291 D2, arC (ma 7) (τ 1) 2 (updZ (updZ ik 0 0) 1 0)]))) (inW ([moO ma M, arC (ma 1) (τ 0) 291 (flR R), arC (ma 8) (τ 0) 120 S, arC (ma 3) (τ 0) 291 D0, arC (ma 7) (τ 1) 2 ik]))) 0 0 (inW ([moO ma M, arC (ma 1) (τ 0) 291 (flR R), arC (ma 8) (τ 0) 120 S, arC (ma 3) (τ 0) 291 D0, arC (ma 7) (τ 1) 2 ik])) := by
  refine rwMet (cc := cX10_load) (maxL := 1) (ret := (some .int)) (lv := [(0, Value.ref (ma 0))]) (by decide) rfl (Nat.le_of_ble_eq_true rfl) rfl ?_
  intro p e s m below meth c hx hb hr hml hts hown hlocks A H hP hD hS hK ls hl
  refine lv_aload_n hx hb dX10_load_0 rfl (lv_at hl 0 rfl) ?_
  refine lv_aload_n hx hb dX10_load_1 rfl (lv_at hl 0 rfl) ?_
  refine rw_V (As := []) (rest := [Value.ref (ma 0)]) ⟨hx, hb, hml, hown, hts⟩ (c_X10_readAll l g τ ma M S hSB D0 (by show 0 ≤ M 9 ∧ M 9 ≤ 120; omega)) gX10_load_X10_readAll cd_X10_readAll rfl rfl ⟨rfl, rfl⟩ ⟨Nat.le_of_ble_eq_true rfl, Nat.le_of_ble_eq_true rfl⟩ hK hP hD hS [0, 2, 3] (rfl) (by decide) 0 rfl rfl rfl rfl hl rfl (Nat.le_of_ble_eq_true rfl) dX10_load_2 ⟨Nat.le_of_ble_eq_true rfl, Nat.le_of_ble_eq_true rfl⟩ (fun v w h => by rw [h.2]; rfl) (fun v w1 H locs hZ hP hD hS => ?_)
  obtain ⟨rfl, rfl⟩ := hZ
  have hP : va_P g vwCl ([moO ma (updZ (updZ (updZ M 10 ((uAll S (M 9)).1)) 11 ((uAll S (M 9)).2.1)) 12 ((uAll S (M 9)).2.2.1)), arC (ma 1) (τ 0) 291 (flR R), arC (ma 8) (τ 0) 120 S, arC (ma 3) (τ 0) 291 (flR ((uAll S (M 9)).2.2.2)), arC (ma 7) (τ 1) 2 ik]) H := hP
  have hD : va_D A ([moO ma (updZ (updZ (updZ M 10 ((uAll S (M 9)).1)) 11 ((uAll S (M 9)).2.1)) 12 ((uAll S (M 9)).2.2.1)), arC (ma 1) (τ 0) 291 (flR R), arC (ma 8) (τ 0) 120 S, arC (ma 3) (τ 0) 291 (flR ((uAll S (M 9)).2.2.2)), arC (ma 7) (τ 1) 2 ik]) := hD
  have huk := uLp_k (S := S) hSB (n := (M 9)) (by omega) 122
  have hur : -1 ≤ uErr S (M 9) ∧ uErr S (M 9) ≤ 120 := by (obtain ⟨q1, q2, q3, -, -⟩ := huk.1); unfold uErr uAll; split <;> omega
  refine tl_some ?_
  refine lv_iconst (v := iI (-1)) hx hb dX10_load_5 (by decide) ?_
  refine zi_icmp_ne (tgt := 13) hx hb ⟨by omega, by omega⟩ ⟨by decide, by decide⟩ dX10_load_6 (by decide) (fun c_1 => ?_) (fun c_1 => ?_)
  · have _ := c_1
    refine lv_iconst (v := iI 1) hx hb dX10_load_13 (by decide) ?_
    refine rw_V (As := [Value.int (iI 1)]) (rest := []) ⟨hx, hb, hml, hown, hts⟩ (c_X10_refused l g τ ma (updZ (updZ (updZ M 10 ((uAll S (M 9)).1)) 11 ((uAll S (M 9)).2.1)) 12 ((uAll S (M 9)).2.2.1)) 1 ⟨by decide, by decide⟩) gX10_load_X10_refused cd_X10_refused rfl rfl ⟨rfl, rfl⟩ ⟨Nat.le_of_ble_eq_true rfl, Nat.le_of_ble_eq_true rfl⟩ hK hP hD hS [0] (rfl) (by decide) 0 rfl rfl rfl rfl hl rfl (Nat.le_of_ble_eq_true rfl) dX10_load_14 ⟨Nat.le_of_ble_eq_true rfl, Nat.le_of_ble_eq_true rfl⟩ (fun v w h => by rw [h.2]; rfl) (fun v w1 H locs hZ hP hD hS => ?_)
    obtain ⟨rfl, rfl⟩ := hZ
    have hP : va_P g vwCl ([moO ma (updZ (updZ (updZ (updZ M 0 1) 10 ((uAll S (M 9)).1)) 11 ((uAll S (M 9)).2.1)) 12 ((uAll S (M 9)).2.2.1)), arC (ma 1) (τ 0) 291 (flR R), arC (ma 8) (τ 0) 120 S, arC (ma 3) (τ 0) 291 (flR ((uAll S (M 9)).2.2.2)), arC (ma 7) (τ 1) 2 ik]) H := hP
    have hD : va_D A ([moO ma (updZ (updZ (updZ (updZ M 0 1) 10 ((uAll S (M 9)).1)) 11 ((uAll S (M 9)).2.1)) 12 ((uAll S (M 9)).2.2.1)), arC (ma 1) (τ 0) 291 (flR R), arC (ma 8) (τ 0) 120 S, arC (ma 3) (τ 0) 291 (flR ((uAll S (M 9)).2.2.2)), arC (ma 7) (τ 1) 2 ik]) := hD
    refine tl_some ?_
    refine cv_i (y := iI 1) (congrArg iI (if_neg (by decide))) ?_
    refine zi_if_eq (tgt := 22) hx hb ⟨by decide, by decide⟩ dX10_load_17 (by decide) (fun c_2 => ?_) (fun c_2 => ?_)
    · exact absurd c_2 (by decide)
    refine lv_iconst (v := iI 0) hx hb dX10_load_20 (by decide) ?_
    exact rw_iret hx hb hr hlocks hP hS (⟨(updZ (updZ (updZ (updZ M 0 1) 10 ((uAll S (M 9)).1)) 11 ((uAll S (M 9)).2.1)) 12 ((uAll S (M 9)).2.2.1)), _, rfl, Or.inl ⟨by omega, rfl, rfl, rfl, rfl⟩⟩) dX10_load_21
  · have _ := c_1
    refine lv_iconst (v := iI 0) hx hb dX10_load_9 (by decide) ?_
    refine lv_goto (tgt := 14) hx hb dX10_load_10 (by decide) ?_
    refine rw_V (As := [Value.int (iI 0)]) (rest := []) ⟨hx, hb, hml, hown, hts⟩ (c_X10_refused l g τ ma (updZ (updZ (updZ M 10 ((uAll S (M 9)).1)) 11 ((uAll S (M 9)).2.1)) 12 ((uAll S (M 9)).2.2.1)) 0 ⟨by decide, by decide⟩) gX10_load_X10_refused cd_X10_refused rfl rfl ⟨rfl, rfl⟩ ⟨Nat.le_of_ble_eq_true rfl, Nat.le_of_ble_eq_true rfl⟩ hK hP hD hS [0] (rfl) (by decide) 0 rfl rfl rfl rfl hl rfl (Nat.le_of_ble_eq_true rfl) dX10_load_14 ⟨Nat.le_of_ble_eq_true rfl, Nat.le_of_ble_eq_true rfl⟩ (fun v w h => by rw [h.2]; rfl) (fun v w1 H locs hZ hP hD hS => ?_)
    obtain ⟨rfl, rfl⟩ := hZ
    have hP : va_P g vwCl ([moO ma (updZ (updZ (updZ (updZ M 0 0) 10 ((uAll S (M 9)).1)) 11 ((uAll S (M 9)).2.1)) 12 ((uAll S (M 9)).2.2.1)), arC (ma 1) (τ 0) 291 (flR R), arC (ma 8) (τ 0) 120 S, arC (ma 3) (τ 0) 291 (flR ((uAll S (M 9)).2.2.2)), arC (ma 7) (τ 1) 2 ik]) H := hP
    have hD : va_D A ([moO ma (updZ (updZ (updZ (updZ M 0 0) 10 ((uAll S (M 9)).1)) 11 ((uAll S (M 9)).2.1)) 12 ((uAll S (M 9)).2.2.1)), arC (ma 1) (τ 0) 291 (flR R), arC (ma 8) (τ 0) 120 S, arC (ma 3) (τ 0) 291 (flR ((uAll S (M 9)).2.2.2)), arC (ma 7) (τ 1) 2 ik]) := hD
    refine tl_some ?_
    refine cv_i (y := iI 0) (congrArg iI (if_pos rfl)) ?_
    refine zi_if_eq (tgt := 22) hx hb ⟨by decide, by decide⟩ dX10_load_17 (by decide) (fun c_3 => ?_) (fun c_3 => ?_)
    · skip
      refine lv_aload_n hx hb dX10_load_22 rfl (lv_at hl 0 rfl) ?_
      refine va_get (D := g) (ci := 10) (v := Value.ref (ma 3)) (C := RX10) (T := TX10) (N := 18) hx hb hts in_X10_load_X10 hown hK.1 hP 0 (rfl) rfl 3 (by decide) (hts _ (List.mem_of_getElem? (i := 1) rfl) : (Cond.fieldLink RX10 16 "CordSealsModel" "read" "[I").before _ s = true) (fun _ h9 => h9) rfl dX10_load_23 ?_
      refine lv_aload_n hx hb dX10_load_26 rfl (lv_at hl 0 rfl) ?_
      refine va_get (D := g) (ci := 10) (v := Value.ref (ma 1)) (C := RX10) (T := TX10) (N := 18) hx hb hts in_X10_load_X10 hown hK.1 hP 0 (rfl) rfl 1 (by decide) (hts _ (List.mem_of_getElem? (i := 2) rfl) : (Cond.fieldLink RX10 7 "CordSealsModel" "now" "[I").before _ s = true) (fun _ h9 => h9) rfl dX10_load_27 ?_
      refine rw_S (As := [Value.ref (ma 3), Value.ref (ma 1)]) (rest := []) ⟨hx, hb, hml, hown, hts⟩ (c_X10_copy l g τ (ma 3) (ma 1) ((uAll S (M 9)).2.2.2) (flR R)) gX10_load_X10_copy cd_X10_copy rfl ⟨rfl, rfl⟩ ⟨Nat.le_of_ble_eq_true rfl, Nat.le_of_ble_eq_true rfl⟩ hK hP hD hS [3, 1] (rfl) (by decide) rfl hl rfl (Nat.le_of_ble_eq_true rfl) dX10_load_30 ⟨Nat.le_of_ble_eq_true rfl, Nat.le_of_ble_eq_true rfl⟩ (fun v w h => by rw [h.2]; rfl) (fun v w1 H locs hZ hP hD hS => ?_)
      obtain ⟨rfl, rfl⟩ := hZ
      have hP : va_P g vwCl ([moO ma (updZ (updZ (updZ (updZ M 0 0) 10 ((uAll S (M 9)).1)) 11 ((uAll S (M 9)).2.1)) 12 ((uAll S (M 9)).2.2.1)), arC (ma 1) (τ 0) 291 (flR ((uAll S (M 9)).2.2.2)), arC (ma 8) (τ 0) 120 S, arC (ma 3) (τ 0) 291 (flR ((uAll S (M 9)).2.2.2)), arC (ma 7) (τ 1) 2 ik]) H := hP
      have hD : va_D A ([moO ma (updZ (updZ (updZ (updZ M 0 0) 10 ((uAll S (M 9)).1)) 11 ((uAll S (M 9)).2.1)) 12 ((uAll S (M 9)).2.2.1)), arC (ma 1) (τ 0) 291 (flR ((uAll S (M 9)).2.2.2)), arC (ma 8) (τ 0) 120 S, arC (ma 3) (τ 0) 291 (flR ((uAll S (M 9)).2.2.2)), arC (ma 7) (τ 1) 2 ik]) := hD
      refine tl_none ?_
      refine lv_aload_n hx hb dX10_load_33 rfl (lv_at hl 0 rfl) ?_
      refine lv_iconst (v := iI 0) hx hb dX10_load_34 (by decide) ?_
      refine va_put (D := g) (ci := 10) (v := Value.int (iI 0)) (ty := .int) (C := RX10) (T := TX10) (N := 18) hx hb hts in_X10_load_X10 tyX10 tyX10_ok nmX10 hown hK.1 hP hD hS 0 (rfl) rfl 5 (by decide) (hts _ (List.mem_of_getElem? (i := 3) rfl) : (Cond.fieldLink RX10 142 "CordSealsModel" "states" "I").before _ s = true) (fun _ h9 => h9) rfl (by decide +kernel) rfl rfl (Nat.le_of_ble_eq_true rfl) dX10_load_35 (fun H locs hP hD hS => ?_)
      have hP : va_P g vwCl ([moO ma (updZ (updZ (updZ (updZ (updZ M 0 0) 5 0) 10 ((uAll S (M 9)).1)) 11 ((uAll S (M 9)).2.1)) 12 ((uAll S (M 9)).2.2.1)), arC (ma 1) (τ 0) 291 (flR ((uAll S (M 9)).2.2.2)), arC (ma 8) (τ 0) 120 S, arC (ma 3) (τ 0) 291 (flR ((uAll S (M 9)).2.2.2)), arC (ma 7) (τ 1) 2 ik]) H := hP
      have hD : va_D A ([moO ma (updZ (updZ (updZ (updZ (updZ M 0 0) 5 0) 10 ((uAll S (M 9)).1)) 11 ((uAll S (M 9)).2.1)) 12 ((uAll S (M 9)).2.2.1)), arC (ma 1) (τ 0) 291 (flR ((uAll S (M 9)).2.2.2)), arC (ma 8) (τ 0) 120 S, arC (ma 3) (τ 0) 291 (flR ((uAll S (M 9)).2.2.2)), arC (ma 7) (τ 1) 2 ik]) := hD
      refine lv_aload_n hx hb dX10_load_38 rfl (lv_at hl 0 rfl) ?_
      refine va_get (D := g) (ci := 10) (v := Value.ref (ma 7)) (C := RX10) (T := TX10) (N := 18) hx hb hts in_X10_load_X10 hown hK.1 hP 0 (rfl) rfl 7 (by decide) (hts _ (List.mem_of_getElem? (i := 4) rfl) : (Cond.fieldLink RX10 25 "CordSealsModel" "isKept" "[Z").before _ s = true) (fun _ h9 => h9) rfl dX10_load_39 ?_
      refine lv_iconst (v := iI 0) hx hb dX10_load_42 (by decide) ?_
      refine lv_iconst (v := iI 0) hx hb dX10_load_43 (by decide) ?_
      refine zz_ast hx hb hK hP hD hS 4 (f := ik) (rfl) (0) (rfl) (by omega) (by decide) (by omega) dX10_load_44 (wo := [moO ma (updZ (updZ (updZ (updZ (updZ M 0 0) 5 0) 10 ((uAll S (M 9)).1)) 11 ((uAll S (M 9)).2.1)) 12 ((uAll S (M 9)).2.2.1)), arC (ma 1) (τ 0) 291 (flR ((uAll S (M 9)).2.2.2)), arC (ma 8) (τ 0) 120 S, arC (ma 3) (τ 0) 291 (flR ((uAll S (M 9)).2.2.2)), arC (ma 7) (τ 1) 2 (updZ ik 0 0)]) rfl (fun H locs hP hD hS => ?_)
      refine lv_aload_n hx hb dX10_load_45 rfl (lv_at hl 0 rfl) ?_
      refine va_get (D := g) (ci := 10) (v := Value.ref (ma 7)) (C := RX10) (T := TX10) (N := 18) hx hb hts in_X10_load_X10 hown hK.1 hP 0 (rfl) rfl 7 (by decide) (hts _ (List.mem_of_getElem? (i := 4) rfl) : (Cond.fieldLink RX10 25 "CordSealsModel" "isKept" "[Z").before _ s = true) (fun _ h9 => h9) rfl dX10_load_46 ?_
      refine lv_iconst (v := iI 1) hx hb dX10_load_49 (by decide) ?_
      refine lv_iconst (v := iI 0) hx hb dX10_load_50 (by decide) ?_
      refine zz_ast hx hb hK hP hD hS 4 (f := (updZ ik 0 0)) (rfl) (1) (rfl) (by omega) (by decide) (by omega) dX10_load_51 (wo := [moO ma (updZ (updZ (updZ (updZ (updZ M 0 0) 5 0) 10 ((uAll S (M 9)).1)) 11 ((uAll S (M 9)).2.1)) 12 ((uAll S (M 9)).2.2.1)), arC (ma 1) (τ 0) 291 (flR ((uAll S (M 9)).2.2.2)), arC (ma 8) (τ 0) 120 S, arC (ma 3) (τ 0) 291 (flR ((uAll S (M 9)).2.2.2)), arC (ma 7) (τ 1) 2 (updZ (updZ ik 0 0) 1 0)]) rfl (fun H locs hP hD hS => ?_)
      refine lv_aload_n hx hb dX10_load_52 rfl (lv_at hl 0 rfl) ?_
      refine va_get (D := g) (ci := 10) (v := Value.int (iI ((uAll S (M 9)).2.2.1))) (C := RX10) (T := TX10) (N := 18) hx hb hts in_X10_load_X10 hown hK.1 hP 0 (rfl) rfl 12 (by decide) (hts _ (List.mem_of_getElem? (i := 5) rfl) : (Cond.fieldLink RX10 172 "CordSealsModel" "leftOut" "I").before _ s = true) (fun _ h9 => h9) rfl dX10_load_53 ?_
      exact rw_iret hx hb hr hlocks hP hS (⟨(updZ (updZ (updZ (updZ (updZ M 0 0) 5 0) 10 ((uAll S (M 9)).1)) 11 ((uAll S (M 9)).2.1)) 12 ((uAll S (M 9)).2.2.1)), _, rfl, Or.inr ⟨by omega, rfl, rfl, rfl, rfl⟩⟩) dX10_load_56
    · exact absurd c_3 (by decide)

theorem cd_X10_stir : cd yX10_stir 1 := by decide +kernel
theorem in_X10_stir_X10 : ∀ w ∈ wsX100, w ∈ wsX10_stir := by decide +kernel
set_option maxHeartbeats 4000000 in
set_option maxRecDepth 100000 in
theorem c_X10_stir (l : Launch) (g : va_G) (τ : Nat → ClassId) (ma : Nat → Nat) (M : Nat → Int) (R : Nat → Nat → Int) (hI : SI R) (P0 : Nat → Int) (r1 : Int) (hr1 : 0 ≤ r1 ∧ r1 < 2147483648)  : Met l yX10_stir wsX10_stir { frames := 10, cells := 0, slots := 0, locals := 238 } (va_Pc [Value.ref (ma 0), Value.int (iI r1)] (rwW g τ ([moO ma M, arC (ma 2) (τ 0) 291 (flR R), arC (ma 17) (τ 0) 6 P0]))) (rwQ g (fun v w => v = none ∧ ∃ M2 P2, AG M M2 ∧ w = [moO ma M2, arC (ma 2) (τ 0) 291 (flR (qStir R r1)), arC (ma 17) (τ 0) 6 P2]) (inW ([moO ma M, arC (ma 2) (τ 0) 291 (flR R), arC (ma 17) (τ 0) 6 P0]))) 0 0 (inW ([moO ma M, arC (ma 2) (τ 0) 291 (flR R), arC (ma 17) (τ 0) 6 P0])) := by
  have hB := hI.hB
  have hr0 := hI.r
  have hd0 := hI.d
  have hs0 := hI.s
  refine rwMet (cc := cX10_stir) (maxL := 4) (ret := none) (lv := [(0, Value.ref (ma 0)), (1, Value.int (iI r1))]) (by decide) rfl (Nat.le_of_ble_eq_true rfl) rfl ?_
  intro p e s m below meth c hx hb hr hml hts hown hlocks A H hP hD hS hK ls hl
  refine lv_iload_n hx hb dX10_stir_0 rfl (lv_at hl 1 rfl) ?_
  refine lv_bipush (v := iI 8) hx hb dX10_stir_1 (by decide) ?_
  refine zi_div hx hb ⟨by omega, by omega⟩ ⟨by decide, by decide⟩ dX10_stir_3 ?_
  refine lv_istore_n (lv' := [(2, Value.int (iI (r1 / 8))), (0, Value.ref (ma 0)), (1, Value.int (iI r1))]) hx hb dX10_stir_4 rfl hl (by decide) rfl (fun ls hl => ?_)
  refine lv_iload_n hx hb dX10_stir_5 rfl (lv_at hl 2 rfl) ?_
  refine lv_bipush (v := iI 8) hx hb dX10_stir_6 (by decide) ?_
  refine zi_rem hx hb ⟨by omega, by omega⟩ ⟨by decide, by decide⟩ dX10_stir_8 ?_
  by_cases k_1_0 : (r1 % 8) = 0
  · refine zi_tabl (tgt := 52) (x := r1 % 8) k_1_0 hx hb ⟨by decide, by decide⟩ (v := 0) dX10_stir_9 (by decide) (by decide) (off := 43) (by decide +kernel) (by decide) ?_
    refine lv_aload_n hx hb dX10_stir_52 rfl (lv_at hl 1 rfl) ?_
    refine va_get (D := g) (ci := 10) (v := Value.ref (ma 2)) (C := RX10) (T := TX10) (N := 18) hx hb hts in_X10_stir_X10 hown hK.1 hP 0 (rfl) rfl 2 (by decide) (hts _ (List.mem_of_getElem? (i := 1) rfl) : (Cond.fieldLink RX10 13 "CordSealsModel" "trial" "[I").before _ s = true) (fun _ h9 => h9) rfl dX10_stir_53 ?_
    refine lv_iload_n hx hb dX10_stir_56 rfl (lv_at hl 0 rfl) ?_
    refine lv_bipush (v := iI 10) hx hb dX10_stir_57 (by decide) ?_
    refine zi_rem hx hb ⟨by omega, by omega⟩ ⟨by decide, by decide⟩ dX10_stir_59 ?_
    refine ro_S (As := [Value.ref (ma 2), Value.int (iI ((r1 / 8) % 10))]) (rest := []) (v := some (Value.int (iI (zB (decide (0 ≤ (r1 / 8) % 10 ∧ (r1 / 8) % 10 ≤ R 4 0 - 1)))))) ⟨hx, hb, hml, hown, hts⟩ (c_X10_hasDie l g τ (ma 2) R hI ((r1 / 8) % 10) ⟨by omega, by omega⟩) gX10_stir_X10_hasDie cd_X10_hasDie rfl ⟨rfl, rfl⟩ ⟨Nat.le_of_ble_eq_true rfl, Nat.le_of_ble_eq_true rfl⟩ hK (cut_P (is := [1]) hP rfl) rfl hl rfl (Nat.le_of_ble_eq_true rfl) dX10_stir_60 ⟨Nat.le_of_ble_eq_true rfl, Nat.le_of_ble_eq_true rfl⟩ ?_
    refine tl_some ?_
    refine zb_if_eq (tgt := 119) hx hb dX10_stir_63 (by decide) (fun c_2 => ?_) (fun c_2 => ?_)
    · have cd_c_2 := of_decide_eq_false c_2
      refine lv_iconst (v := iI 0) hx hb dX10_stir_119 (by decide) ?_
      refine lv_istore_n (lv' := [(3, Value.int (iI 0)), (2, Value.int (iI (r1 / 8))), (0, Value.ref (ma 0)), (1, Value.int (iI r1))]) hx hb dX10_stir_120 rfl hl (by decide) rfl (fun ls hl => ?_)
      refine lv_goto (tgt := 227) hx hb dX10_stir_121 (by decide) ?_
      exact rw_vret hx hb hr hlocks hP hS (by (have hq : qStir R r1 = R := (by unfold qStir; rw [if_pos (by omega)]; unfold aSeal; first | rw [if_pos (by omega)] | rw [if_neg (by omega), if_neg (by omega), if_pos (by omega)] | (exfalso; omega))); rw [hq]; exact ⟨rfl, _, _, AG_r _, rfl⟩) dX10_stir_227
    · have cd_c_2 := of_decide_eq_true c_2
      have hdl := hI.ds (r1 / 8 % 10).toNat (by omega)
      have hpw := pow_r (m := (R 8 (r1 / 8 % 10).toNat).toNat) (by omega)
      refine lv_aload_n hx hb dX10_stir_66 rfl (lv_at hl 1 rfl) ?_
      refine va_get (D := g) (ci := 10) (v := Value.ref (ma 2)) (C := RX10) (T := TX10) (N := 18) hx hb hts in_X10_stir_X10 hown hK.1 hP 0 (rfl) rfl 2 (by decide) (hts _ (List.mem_of_getElem? (i := 1) rfl) : (Cond.fieldLink RX10 13 "CordSealsModel" "trial" "[I").before _ s = true) (fun _ h9 => h9) rfl dX10_stir_67 ?_
      refine lv_iconst (v := iI 2) hx hb dX10_stir_70 (by decide) ?_
      refine zf_ald hx hb hK hP 1 (f := flR R) rfl (2) (rfl) (by omega) (by decide) (z := R 10 0) (fl_10) dX10_stir_71 ?_
      have hb_3 := hB 10 0
      refine lv_bipush (v := iI 24) hx hb dX10_stir_72 (by decide) ?_
      refine zi_icmp_ge (tgt := 119) hx hb ⟨by omega, by omega⟩ ⟨by decide, by decide⟩ dX10_stir_74 (by decide) (fun c_4 => ?_) (fun c_4 => ?_)
      · have _ := c_4
        refine lv_iconst (v := iI 0) hx hb dX10_stir_119 (by decide) ?_
        refine lv_istore_n (lv' := [(3, Value.int (iI 0)), (2, Value.int (iI (r1 / 8))), (0, Value.ref (ma 0)), (1, Value.int (iI r1))]) hx hb dX10_stir_120 rfl hl (by decide) rfl (fun ls hl => ?_)
        refine lv_goto (tgt := 227) hx hb dX10_stir_121 (by decide) ?_
        exact rw_vret hx hb hr hlocks hP hS (by (have hq : qStir R r1 = R := (by unfold qStir; rw [if_pos (by omega)]; unfold aSeal; first | rw [if_pos (by omega)] | rw [if_neg (by omega), if_neg (by omega), if_pos (by omega)] | (exfalso; omega))); rw [hq]; exact ⟨rfl, _, _, AG_r _, rfl⟩) dX10_stir_227
      · have _ := c_4
        refine lv_aload_n hx hb dX10_stir_77 rfl (lv_at hl 1 rfl) ?_
        refine va_get (D := g) (ci := 10) (v := Value.ref (ma 2)) (C := RX10) (T := TX10) (N := 18) hx hb hts in_X10_stir_X10 hown hK.1 hP 0 (rfl) rfl 2 (by decide) (hts _ (List.mem_of_getElem? (i := 1) rfl) : (Cond.fieldLink RX10 13 "CordSealsModel" "trial" "[I").before _ s = true) (fun _ h9 => h9) rfl dX10_stir_78 ?_
        refine lv_iload_n hx hb dX10_stir_81 rfl (lv_at hl 0 rfl) ?_
        refine lv_bipush (v := iI 10) hx hb dX10_stir_82 (by decide) ?_
        refine zi_rem hx hb ⟨by omega, by omega⟩ ⟨by decide, by decide⟩ dX10_stir_84 ?_
        refine lv_iload_n hx hb dX10_stir_85 rfl (lv_at hl 0 rfl) ?_
        refine lv_bipush (v := iI 16) hx hb dX10_stir_86 (by decide) ?_
        refine zi_div hx hb ⟨by omega, by omega⟩ ⟨by decide, by decide⟩ dX10_stir_88 ?_
        refine lv_iconst (v := iI 2) hx hb dX10_stir_89 (by decide) ?_
        refine zi_rem hx hb ⟨by omega, by omega⟩ ⟨by decide, by decide⟩ dX10_stir_90 ?_
        refine lv_iload_n hx hb dX10_stir_91 rfl (lv_at hl 0 rfl) ?_
        refine lv_bipush (v := iI 32) hx hb dX10_stir_92 (by decide) ?_
        refine zi_div hx hb ⟨by omega, by omega⟩ ⟨by decide, by decide⟩ dX10_stir_94 ?_
        refine lv_bipush (v := iI 9) hx hb dX10_stir_95 (by decide) ?_
        refine zi_rem hx hb ⟨by omega, by omega⟩ ⟨by decide, by decide⟩ dX10_stir_97 ?_
        refine lv_iconst (v := iI 1) hx hb dX10_stir_98 (by decide) ?_
        refine zi_sub hx hb dX10_stir_99 ?_
        refine lv_iload_n hx hb dX10_stir_100 rfl (lv_at hl 0 rfl) ?_
        refine lv_sipush (v := iI 512) hx hb dX10_stir_101 (by decide) ?_
        refine zi_div hx hb ⟨by omega, by omega⟩ ⟨by decide, by decide⟩ dX10_stir_104 ?_
        refine lv_bipush (v := iI 20) hx hb dX10_stir_105 (by decide) ?_
        refine zi_rem hx hb ⟨by omega, by omega⟩ ⟨by decide, by decide⟩ dX10_stir_107 ?_
        refine lv_iconst (v := iI 0) hx hb dX10_stir_108 (by decide) ?_
        refine rw_S (As := [Value.ref (ma 2), Value.int (iI ((r1 / 8) % 10)), Value.int (iI (((r1 / 8) / 16) % 2)), Value.int (iI ((((r1 / 8) / 32) % 9) - 1)), Value.int (iI (((r1 / 8) / 512) % 20)), Value.int (iI 0)]) (rest := []) ⟨hx, hb, hml, hown, hts⟩ (c_X10_goSeal l g τ (ma 2) R hI ((r1 / 8) % 10) ⟨by omega, by omega⟩ (((r1 / 8) / 16) % 2) ⟨by omega, by omega⟩ ((((r1 / 8) / 32) % 9) - 1) ⟨by omega, by omega⟩ (((r1 / 8) / 512) % 20) ⟨by omega, by omega⟩ 0 ⟨by omega, by omega⟩ (by omega)) gX10_stir_X10_goSeal cd_X10_goSeal rfl ⟨rfl, rfl⟩ ⟨Nat.le_of_ble_eq_true rfl, Nat.le_of_ble_eq_true rfl⟩ hK hP hD hS [1] (rfl) (by decide) rfl hl rfl (Nat.le_of_ble_eq_true rfl) dX10_stir_109 ⟨Nat.le_of_ble_eq_true rfl, Nat.le_of_ble_eq_true rfl⟩ (fun v w h => by rw [h.2]; exact f_fl _ _ _ _) (fun v w1 H locs hZ hP hD hS => ?_)
        obtain ⟨rfl, rfl⟩ := hZ
        have hP : va_P g vwCl ([moO ma M, arC (ma 2) (τ 0) 291 (flR (u2 (u2 (u2 (u2 (u2 (u2 (u2 R 11 (updZ (R 11) (R 10 0).toNat ((r1 / 8) % 10))) 12 (updZ (R 12) (R 10 0).toNat (((r1 / 8) / 16) % 2))) 13 (updZ (R 13) (R 10 0).toNat ((((r1 / 8) / 32) % 9) - 1))) 14 (updZ (R 14) (R 10 0).toNat (((r1 / 8) / 512) % 20))) 15 (updZ (R 15) (R 10 0).toNat 0)) 16 (updZ (R 16) (R 10 0).toNat (-1))) 10 (fun _ => R 10 0 + 1))), arC (ma 17) (τ 0) 6 P0]) H := hP
        have hD : va_D A ([moO ma M, arC (ma 2) (τ 0) 291 (flR (u2 (u2 (u2 (u2 (u2 (u2 (u2 R 11 (updZ (R 11) (R 10 0).toNat ((r1 / 8) % 10))) 12 (updZ (R 12) (R 10 0).toNat (((r1 / 8) / 16) % 2))) 13 (updZ (R 13) (R 10 0).toNat ((((r1 / 8) / 32) % 9) - 1))) 14 (updZ (R 14) (R 10 0).toNat (((r1 / 8) / 512) % 20))) 15 (updZ (R 15) (R 10 0).toNat 0)) 16 (updZ (R 16) (R 10 0).toNat (-1))) 10 (fun _ => R 10 0 + 1))), arC (ma 17) (τ 0) 6 P0]) := hD
        refine tl_some ?_
        refine zi_if_lt (tgt := 119) hx hb ⟨by omega, by omega⟩ dX10_stir_112 (by decide) (fun c_5 => ?_) (fun c_5 => ?_)
        · have _ := c_5
          refine lv_iconst (v := iI 0) hx hb dX10_stir_119 (by decide) ?_
          refine lv_istore_n (lv' := [(3, Value.int (iI 0)), (2, Value.int (iI (r1 / 8))), (0, Value.ref (ma 0)), (1, Value.int (iI r1))]) hx hb dX10_stir_120 rfl hl (by decide) rfl (fun ls hl => ?_)
          refine lv_goto (tgt := 227) hx hb dX10_stir_121 (by decide) ?_
          exact rw_vret hx hb hr hlocks hP hS (by (have hq : qStir R r1 = u2 (u2 (u2 (u2 (u2 (u2 (u2 R 11 (updZ (R 11) (R 10 0).toNat ((r1 / 8) % 10))) 12 (updZ (R 12) (R 10 0).toNat (((r1 / 8) / 16) % 2))) 13 (updZ (R 13) (R 10 0).toNat ((((r1 / 8) / 32) % 9) - 1))) 14 (updZ (R 14) (R 10 0).toNat (((r1 / 8) / 512) % 20))) 15 (updZ (R 15) (R 10 0).toNat 0)) 16 (updZ (R 16) (R 10 0).toNat (-1))) 10 (fun _ => R 10 0 + 1) := (by unfold qStir; rw [if_pos (by omega)]; unfold aSeal; rw [if_neg (by omega), if_neg (by omega), if_neg (by omega)])); rw [hq]; exact ⟨rfl, _, _, AG_r _, rfl⟩) dX10_stir_227
        · have _ := c_5
          refine lv_iconst (v := iI 1) hx hb dX10_stir_115 (by decide) ?_
          refine lv_goto (tgt := 120) hx hb dX10_stir_116 (by decide) ?_
          refine lv_istore_n (lv' := [(3, Value.int (iI 1)), (2, Value.int (iI (r1 / 8))), (0, Value.ref (ma 0)), (1, Value.int (iI r1))]) hx hb dX10_stir_120 rfl hl (by decide) rfl (fun ls hl => ?_)
          refine lv_goto (tgt := 227) hx hb dX10_stir_121 (by decide) ?_
          exact rw_vret hx hb hr hlocks hP hS (by (have hq : qStir R r1 = u2 (u2 (u2 (u2 (u2 (u2 (u2 R 11 (updZ (R 11) (R 10 0).toNat ((r1 / 8) % 10))) 12 (updZ (R 12) (R 10 0).toNat (((r1 / 8) / 16) % 2))) 13 (updZ (R 13) (R 10 0).toNat ((((r1 / 8) / 32) % 9) - 1))) 14 (updZ (R 14) (R 10 0).toNat (((r1 / 8) / 512) % 20))) 15 (updZ (R 15) (R 10 0).toNat 0)) 16 (updZ (R 16) (R 10 0).toNat (-1))) 10 (fun _ => R 10 0 + 1) := (by unfold qStir; rw [if_pos (by omega)]; unfold aSeal; rw [if_neg (by omega), if_neg (by omega), if_neg (by omega)])); rw [hq]; exact ⟨rfl, _, _, AG_r _, rfl⟩) dX10_stir_227
  by_cases k_1_1 : (r1 % 8) = 1
  · refine zi_tabl (tgt := 52) (x := r1 % 8) k_1_1 hx hb ⟨by decide, by decide⟩ (v := 1) dX10_stir_9 (by decide) (by decide) (off := 43) (by decide +kernel) (by decide) ?_
    refine lv_aload_n hx hb dX10_stir_52 rfl (lv_at hl 1 rfl) ?_
    refine va_get (D := g) (ci := 10) (v := Value.ref (ma 2)) (C := RX10) (T := TX10) (N := 18) hx hb hts in_X10_stir_X10 hown hK.1 hP 0 (rfl) rfl 2 (by decide) (hts _ (List.mem_of_getElem? (i := 1) rfl) : (Cond.fieldLink RX10 13 "CordSealsModel" "trial" "[I").before _ s = true) (fun _ h9 => h9) rfl dX10_stir_53 ?_
    refine lv_iload_n hx hb dX10_stir_56 rfl (lv_at hl 0 rfl) ?_
    refine lv_bipush (v := iI 10) hx hb dX10_stir_57 (by decide) ?_
    refine zi_rem hx hb ⟨by omega, by omega⟩ ⟨by decide, by decide⟩ dX10_stir_59 ?_
    refine ro_S (As := [Value.ref (ma 2), Value.int (iI ((r1 / 8) % 10))]) (rest := []) (v := some (Value.int (iI (zB (decide (0 ≤ (r1 / 8) % 10 ∧ (r1 / 8) % 10 ≤ R 4 0 - 1)))))) ⟨hx, hb, hml, hown, hts⟩ (c_X10_hasDie l g τ (ma 2) R hI ((r1 / 8) % 10) ⟨by omega, by omega⟩) gX10_stir_X10_hasDie cd_X10_hasDie rfl ⟨rfl, rfl⟩ ⟨Nat.le_of_ble_eq_true rfl, Nat.le_of_ble_eq_true rfl⟩ hK (cut_P (is := [1]) hP rfl) rfl hl rfl (Nat.le_of_ble_eq_true rfl) dX10_stir_60 ⟨Nat.le_of_ble_eq_true rfl, Nat.le_of_ble_eq_true rfl⟩ ?_
    refine tl_some ?_
    refine zb_if_eq (tgt := 119) hx hb dX10_stir_63 (by decide) (fun c_6 => ?_) (fun c_6 => ?_)
    · have cd_c_6 := of_decide_eq_false c_6
      refine lv_iconst (v := iI 0) hx hb dX10_stir_119 (by decide) ?_
      refine lv_istore_n (lv' := [(3, Value.int (iI 0)), (2, Value.int (iI (r1 / 8))), (0, Value.ref (ma 0)), (1, Value.int (iI r1))]) hx hb dX10_stir_120 rfl hl (by decide) rfl (fun ls hl => ?_)
      refine lv_goto (tgt := 227) hx hb dX10_stir_121 (by decide) ?_
      exact rw_vret hx hb hr hlocks hP hS (by (have hq : qStir R r1 = R := (by unfold qStir; rw [if_pos (by omega)]; unfold aSeal; first | rw [if_pos (by omega)] | rw [if_neg (by omega), if_neg (by omega), if_pos (by omega)] | (exfalso; omega))); rw [hq]; exact ⟨rfl, _, _, AG_r _, rfl⟩) dX10_stir_227
    · have cd_c_6 := of_decide_eq_true c_6
      have hdl := hI.ds (r1 / 8 % 10).toNat (by omega)
      have hpw := pow_r (m := (R 8 (r1 / 8 % 10).toNat).toNat) (by omega)
      refine lv_aload_n hx hb dX10_stir_66 rfl (lv_at hl 1 rfl) ?_
      refine va_get (D := g) (ci := 10) (v := Value.ref (ma 2)) (C := RX10) (T := TX10) (N := 18) hx hb hts in_X10_stir_X10 hown hK.1 hP 0 (rfl) rfl 2 (by decide) (hts _ (List.mem_of_getElem? (i := 1) rfl) : (Cond.fieldLink RX10 13 "CordSealsModel" "trial" "[I").before _ s = true) (fun _ h9 => h9) rfl dX10_stir_67 ?_
      refine lv_iconst (v := iI 2) hx hb dX10_stir_70 (by decide) ?_
      refine zf_ald hx hb hK hP 1 (f := flR R) rfl (2) (rfl) (by omega) (by decide) (z := R 10 0) (fl_10) dX10_stir_71 ?_
      have hb_7 := hB 10 0
      refine lv_bipush (v := iI 24) hx hb dX10_stir_72 (by decide) ?_
      refine zi_icmp_ge (tgt := 119) hx hb ⟨by omega, by omega⟩ ⟨by decide, by decide⟩ dX10_stir_74 (by decide) (fun c_8 => ?_) (fun c_8 => ?_)
      · have _ := c_8
        refine lv_iconst (v := iI 0) hx hb dX10_stir_119 (by decide) ?_
        refine lv_istore_n (lv' := [(3, Value.int (iI 0)), (2, Value.int (iI (r1 / 8))), (0, Value.ref (ma 0)), (1, Value.int (iI r1))]) hx hb dX10_stir_120 rfl hl (by decide) rfl (fun ls hl => ?_)
        refine lv_goto (tgt := 227) hx hb dX10_stir_121 (by decide) ?_
        exact rw_vret hx hb hr hlocks hP hS (by (have hq : qStir R r1 = R := (by unfold qStir; rw [if_pos (by omega)]; unfold aSeal; first | rw [if_pos (by omega)] | rw [if_neg (by omega), if_neg (by omega), if_pos (by omega)] | (exfalso; omega))); rw [hq]; exact ⟨rfl, _, _, AG_r _, rfl⟩) dX10_stir_227
      · have _ := c_8
        refine lv_aload_n hx hb dX10_stir_77 rfl (lv_at hl 1 rfl) ?_
        refine va_get (D := g) (ci := 10) (v := Value.ref (ma 2)) (C := RX10) (T := TX10) (N := 18) hx hb hts in_X10_stir_X10 hown hK.1 hP 0 (rfl) rfl 2 (by decide) (hts _ (List.mem_of_getElem? (i := 1) rfl) : (Cond.fieldLink RX10 13 "CordSealsModel" "trial" "[I").before _ s = true) (fun _ h9 => h9) rfl dX10_stir_78 ?_
        refine lv_iload_n hx hb dX10_stir_81 rfl (lv_at hl 0 rfl) ?_
        refine lv_bipush (v := iI 10) hx hb dX10_stir_82 (by decide) ?_
        refine zi_rem hx hb ⟨by omega, by omega⟩ ⟨by decide, by decide⟩ dX10_stir_84 ?_
        refine lv_iload_n hx hb dX10_stir_85 rfl (lv_at hl 0 rfl) ?_
        refine lv_bipush (v := iI 16) hx hb dX10_stir_86 (by decide) ?_
        refine zi_div hx hb ⟨by omega, by omega⟩ ⟨by decide, by decide⟩ dX10_stir_88 ?_
        refine lv_iconst (v := iI 2) hx hb dX10_stir_89 (by decide) ?_
        refine zi_rem hx hb ⟨by omega, by omega⟩ ⟨by decide, by decide⟩ dX10_stir_90 ?_
        refine lv_iload_n hx hb dX10_stir_91 rfl (lv_at hl 0 rfl) ?_
        refine lv_bipush (v := iI 32) hx hb dX10_stir_92 (by decide) ?_
        refine zi_div hx hb ⟨by omega, by omega⟩ ⟨by decide, by decide⟩ dX10_stir_94 ?_
        refine lv_bipush (v := iI 9) hx hb dX10_stir_95 (by decide) ?_
        refine zi_rem hx hb ⟨by omega, by omega⟩ ⟨by decide, by decide⟩ dX10_stir_97 ?_
        refine lv_iconst (v := iI 1) hx hb dX10_stir_98 (by decide) ?_
        refine zi_sub hx hb dX10_stir_99 ?_
        refine lv_iload_n hx hb dX10_stir_100 rfl (lv_at hl 0 rfl) ?_
        refine lv_sipush (v := iI 512) hx hb dX10_stir_101 (by decide) ?_
        refine zi_div hx hb ⟨by omega, by omega⟩ ⟨by decide, by decide⟩ dX10_stir_104 ?_
        refine lv_bipush (v := iI 20) hx hb dX10_stir_105 (by decide) ?_
        refine zi_rem hx hb ⟨by omega, by omega⟩ ⟨by decide, by decide⟩ dX10_stir_107 ?_
        refine lv_iconst (v := iI 0) hx hb dX10_stir_108 (by decide) ?_
        refine rw_S (As := [Value.ref (ma 2), Value.int (iI ((r1 / 8) % 10)), Value.int (iI (((r1 / 8) / 16) % 2)), Value.int (iI ((((r1 / 8) / 32) % 9) - 1)), Value.int (iI (((r1 / 8) / 512) % 20)), Value.int (iI 0)]) (rest := []) ⟨hx, hb, hml, hown, hts⟩ (c_X10_goSeal l g τ (ma 2) R hI ((r1 / 8) % 10) ⟨by omega, by omega⟩ (((r1 / 8) / 16) % 2) ⟨by omega, by omega⟩ ((((r1 / 8) / 32) % 9) - 1) ⟨by omega, by omega⟩ (((r1 / 8) / 512) % 20) ⟨by omega, by omega⟩ 0 ⟨by omega, by omega⟩ (by omega)) gX10_stir_X10_goSeal cd_X10_goSeal rfl ⟨rfl, rfl⟩ ⟨Nat.le_of_ble_eq_true rfl, Nat.le_of_ble_eq_true rfl⟩ hK hP hD hS [1] (rfl) (by decide) rfl hl rfl (Nat.le_of_ble_eq_true rfl) dX10_stir_109 ⟨Nat.le_of_ble_eq_true rfl, Nat.le_of_ble_eq_true rfl⟩ (fun v w h => by rw [h.2]; exact f_fl _ _ _ _) (fun v w1 H locs hZ hP hD hS => ?_)
        obtain ⟨rfl, rfl⟩ := hZ
        have hP : va_P g vwCl ([moO ma M, arC (ma 2) (τ 0) 291 (flR (u2 (u2 (u2 (u2 (u2 (u2 (u2 R 11 (updZ (R 11) (R 10 0).toNat ((r1 / 8) % 10))) 12 (updZ (R 12) (R 10 0).toNat (((r1 / 8) / 16) % 2))) 13 (updZ (R 13) (R 10 0).toNat ((((r1 / 8) / 32) % 9) - 1))) 14 (updZ (R 14) (R 10 0).toNat (((r1 / 8) / 512) % 20))) 15 (updZ (R 15) (R 10 0).toNat 0)) 16 (updZ (R 16) (R 10 0).toNat (-1))) 10 (fun _ => R 10 0 + 1))), arC (ma 17) (τ 0) 6 P0]) H := hP
        have hD : va_D A ([moO ma M, arC (ma 2) (τ 0) 291 (flR (u2 (u2 (u2 (u2 (u2 (u2 (u2 R 11 (updZ (R 11) (R 10 0).toNat ((r1 / 8) % 10))) 12 (updZ (R 12) (R 10 0).toNat (((r1 / 8) / 16) % 2))) 13 (updZ (R 13) (R 10 0).toNat ((((r1 / 8) / 32) % 9) - 1))) 14 (updZ (R 14) (R 10 0).toNat (((r1 / 8) / 512) % 20))) 15 (updZ (R 15) (R 10 0).toNat 0)) 16 (updZ (R 16) (R 10 0).toNat (-1))) 10 (fun _ => R 10 0 + 1))), arC (ma 17) (τ 0) 6 P0]) := hD
        refine tl_some ?_
        refine zi_if_lt (tgt := 119) hx hb ⟨by omega, by omega⟩ dX10_stir_112 (by decide) (fun c_9 => ?_) (fun c_9 => ?_)
        · have _ := c_9
          refine lv_iconst (v := iI 0) hx hb dX10_stir_119 (by decide) ?_
          refine lv_istore_n (lv' := [(3, Value.int (iI 0)), (2, Value.int (iI (r1 / 8))), (0, Value.ref (ma 0)), (1, Value.int (iI r1))]) hx hb dX10_stir_120 rfl hl (by decide) rfl (fun ls hl => ?_)
          refine lv_goto (tgt := 227) hx hb dX10_stir_121 (by decide) ?_
          exact rw_vret hx hb hr hlocks hP hS (by (have hq : qStir R r1 = u2 (u2 (u2 (u2 (u2 (u2 (u2 R 11 (updZ (R 11) (R 10 0).toNat ((r1 / 8) % 10))) 12 (updZ (R 12) (R 10 0).toNat (((r1 / 8) / 16) % 2))) 13 (updZ (R 13) (R 10 0).toNat ((((r1 / 8) / 32) % 9) - 1))) 14 (updZ (R 14) (R 10 0).toNat (((r1 / 8) / 512) % 20))) 15 (updZ (R 15) (R 10 0).toNat 0)) 16 (updZ (R 16) (R 10 0).toNat (-1))) 10 (fun _ => R 10 0 + 1) := (by unfold qStir; rw [if_pos (by omega)]; unfold aSeal; rw [if_neg (by omega), if_neg (by omega), if_neg (by omega)])); rw [hq]; exact ⟨rfl, _, _, AG_r _, rfl⟩) dX10_stir_227
        · have _ := c_9
          refine lv_iconst (v := iI 1) hx hb dX10_stir_115 (by decide) ?_
          refine lv_goto (tgt := 120) hx hb dX10_stir_116 (by decide) ?_
          refine lv_istore_n (lv' := [(3, Value.int (iI 1)), (2, Value.int (iI (r1 / 8))), (0, Value.ref (ma 0)), (1, Value.int (iI r1))]) hx hb dX10_stir_120 rfl hl (by decide) rfl (fun ls hl => ?_)
          refine lv_goto (tgt := 227) hx hb dX10_stir_121 (by decide) ?_
          exact rw_vret hx hb hr hlocks hP hS (by (have hq : qStir R r1 = u2 (u2 (u2 (u2 (u2 (u2 (u2 R 11 (updZ (R 11) (R 10 0).toNat ((r1 / 8) % 10))) 12 (updZ (R 12) (R 10 0).toNat (((r1 / 8) / 16) % 2))) 13 (updZ (R 13) (R 10 0).toNat ((((r1 / 8) / 32) % 9) - 1))) 14 (updZ (R 14) (R 10 0).toNat (((r1 / 8) / 512) % 20))) 15 (updZ (R 15) (R 10 0).toNat 0)) 16 (updZ (R 16) (R 10 0).toNat (-1))) 10 (fun _ => R 10 0 + 1) := (by unfold qStir; rw [if_pos (by omega)]; unfold aSeal; rw [if_neg (by omega), if_neg (by omega), if_neg (by omega)])); rw [hq]; exact ⟨rfl, _, _, AG_r _, rfl⟩) dX10_stir_227
  by_cases k_1_2 : (r1 % 8) = 2
  · refine zi_tabl (tgt := 124) (x := r1 % 8) k_1_2 hx hb ⟨by decide, by decide⟩ (v := 2) dX10_stir_9 (by decide) (by decide) (off := 115) (by decide +kernel) (by decide) ?_
    refine lv_aload_n hx hb dX10_stir_124 rfl (lv_at hl 1 rfl) ?_
    refine lv_iload_n hx hb dX10_stir_125 rfl (lv_at hl 0 rfl) ?_
    refine lv_bipush (v := iI 10) hx hb dX10_stir_126 (by decide) ?_
    refine zi_rem hx hb ⟨by omega, by omega⟩ ⟨by decide, by decide⟩ dX10_stir_128 ?_
    refine lv_sipush (v := iI 1000) hx hb dX10_stir_129 (by decide) ?_
    refine lv_iload_n hx hb dX10_stir_132 rfl (lv_at hl 0 rfl) ?_
    refine lv_bipush (v := iI 16) hx hb dX10_stir_133 (by decide) ?_
    refine zi_div hx hb ⟨by omega, by omega⟩ ⟨by decide, by decide⟩ dX10_stir_135 ?_
    refine lv_sipush (v := iI 1000) hx hb dX10_stir_136 (by decide) ?_
    refine zi_rem hx hb ⟨by omega, by omega⟩ ⟨by decide, by decide⟩ dX10_stir_139 ?_
    refine zi_add hx hb dX10_stir_140 ?_
    refine rw_V (As := [Value.int (iI ((r1 / 8) % 10)), Value.int (iI (1000 + (((r1 / 8) / 16) % 1000)))]) (rest := []) ⟨hx, hb, hml, hown, hts⟩ (c_X10_runCrack l g τ ma M R hI ((r1 / 8) % 10) ⟨by omega, by omega⟩ (1000 + (((r1 / 8) / 16) % 1000)) ⟨by omega, by omega⟩) gX10_stir_X10_runCrack cd_X10_runCrack rfl rfl ⟨rfl, rfl⟩ ⟨Nat.le_of_ble_eq_true rfl, Nat.le_of_ble_eq_true rfl⟩ hK hP hD hS [0, 1] (rfl) (by decide) 0 rfl rfl rfl rfl hl rfl (Nat.le_of_ble_eq_true rfl) dX10_stir_141 ⟨Nat.le_of_ble_eq_true rfl, Nat.le_of_ble_eq_true rfl⟩ (fun v w h => by rw [h.2]; rfl) (fun v w1 H locs hZ hP hD hS => ?_)
    obtain ⟨rfl, rfl⟩ := hZ
    have hP : va_P g vwCl ([moO ma M, arC (ma 2) (τ 0) 291 (flR ((aCrack R ((r1 / 8) % 10) (1000 + (((r1 / 8) / 16) % 1000))).2)), arC (ma 17) (τ 0) 6 P0]) H := hP
    have hD : va_D A ([moO ma M, arC (ma 2) (τ 0) 291 (flR ((aCrack R ((r1 / 8) % 10) (1000 + (((r1 / 8) / 16) % 1000))).2)), arC (ma 17) (τ 0) 6 P0]) := hD
    refine tl_some ?_
    refine lv_istore_n (lv' := [(3, Value.int (iI (zB (decide (0 ≤ (aCrack R ((r1 / 8) % 10) (1000 + (((r1 / 8) / 16) % 1000))).1))))), (2, Value.int (iI (r1 / 8))), (0, Value.ref (ma 0)), (1, Value.int (iI r1))]) hx hb dX10_stir_144 rfl hl (by decide) rfl (fun ls hl => ?_)
    refine lv_goto (tgt := 227) hx hb dX10_stir_145 (by decide) ?_
    exact rw_vret hx hb hr hlocks hP hS (by (have hq : qStir R r1 = (aCrack R ((r1 / 8) % 10) (1000 + (((r1 / 8) / 16) % 1000))).2 := (by unfold qStir; rw [if_neg (by omega), if_pos (by omega)])); rw [hq]; exact ⟨rfl, _, _, AG_r _, rfl⟩) dX10_stir_227
  by_cases k_1_3 : (r1 % 8) = 3
  · refine zi_tabl (tgt := 148) (x := r1 % 8) k_1_3 hx hb ⟨by decide, by decide⟩ (v := 3) dX10_stir_9 (by decide) (by decide) (off := 139) (by decide +kernel) (by decide) ?_
    refine lv_aload_n hx hb dX10_stir_148 rfl (lv_at hl 1 rfl) ?_
    refine lv_iload_n hx hb dX10_stir_149 rfl (lv_at hl 0 rfl) ?_
    refine lv_bipush (v := iI 24) hx hb dX10_stir_150 (by decide) ?_
    refine zi_rem hx hb ⟨by omega, by omega⟩ ⟨by decide, by decide⟩ dX10_stir_152 ?_
    refine lv_iload_n hx hb dX10_stir_153 rfl (lv_at hl 0 rfl) ?_
    refine lv_bipush (v := iI 32) hx hb dX10_stir_154 (by decide) ?_
    refine zi_div hx hb ⟨by omega, by omega⟩ ⟨by decide, by decide⟩ dX10_stir_156 ?_
    refine lv_bipush (v := iI 16) hx hb dX10_stir_157 (by decide) ?_
    refine zi_rem hx hb ⟨by omega, by omega⟩ ⟨by decide, by decide⟩ dX10_stir_159 ?_
    refine rw_V (As := [Value.int (iI ((r1 / 8) % 24)), Value.int (iI (((r1 / 8) / 32) % 16))]) (rest := []) ⟨hx, hb, hml, hown, hts⟩ (c_X10_runShow l g τ ma M R hI ((r1 / 8) % 24) ⟨by omega, by omega⟩ (((r1 / 8) / 32) % 16) ⟨by omega, by omega⟩) gX10_stir_X10_runShow cd_X10_runShow rfl rfl ⟨rfl, rfl⟩ ⟨Nat.le_of_ble_eq_true rfl, Nat.le_of_ble_eq_true rfl⟩ hK hP hD hS [0, 1] (rfl) (by decide) 0 rfl rfl rfl rfl hl rfl (Nat.le_of_ble_eq_true rfl) dX10_stir_160 ⟨Nat.le_of_ble_eq_true rfl, Nat.le_of_ble_eq_true rfl⟩ (fun v w h => by rw [h.2]; rfl) (fun v w1 H locs hZ hP hD hS => ?_)
    obtain ⟨rfl, rfl⟩ := hZ
    have hP : va_P g vwCl ([moO ma M, arC (ma 2) (τ 0) 291 (flR ((aShow R ((r1 / 8) % 24) (((r1 / 8) / 32) % 16)).2)), arC (ma 17) (τ 0) 6 P0]) H := hP
    have hD : va_D A ([moO ma M, arC (ma 2) (τ 0) 291 (flR ((aShow R ((r1 / 8) % 24) (((r1 / 8) / 32) % 16)).2)), arC (ma 17) (τ 0) 6 P0]) := hD
    refine tl_some ?_
    refine lv_istore_n (lv' := [(3, Value.int (iI (zB (decide (0 ≤ (aShow R ((r1 / 8) % 24) (((r1 / 8) / 32) % 16)).1))))), (2, Value.int (iI (r1 / 8))), (0, Value.ref (ma 0)), (1, Value.int (iI r1))]) hx hb dX10_stir_163 rfl hl (by decide) rfl (fun ls hl => ?_)
    refine lv_goto (tgt := 227) hx hb dX10_stir_164 (by decide) ?_
    exact rw_vret hx hb hr hlocks hP hS (by (have hq : qStir R r1 = (aShow R ((r1 / 8) % 24) (((r1 / 8) / 32) % 16)).2 := (by unfold qStir; rw [if_neg (by omega), if_neg (by omega), if_pos (by omega)])); rw [hq]; exact ⟨rfl, _, _, AG_r _, rfl⟩) dX10_stir_227
  by_cases k_1_4 : (r1 % 8) = 4
  · refine zi_tabl (tgt := 167) (x := r1 % 8) k_1_4 hx hb ⟨by decide, by decide⟩ (v := 4) dX10_stir_9 (by decide) (by decide) (off := 158) (by decide +kernel) (by decide) ?_
    refine lv_aload_n hx hb dX10_stir_167 rfl (lv_at hl 1 rfl) ?_
    refine lv_iload_n hx hb dX10_stir_168 rfl (lv_at hl 0 rfl) ?_
    refine lv_bipush (v := iI 24) hx hb dX10_stir_169 (by decide) ?_
    refine zi_rem hx hb ⟨by omega, by omega⟩ ⟨by decide, by decide⟩ dX10_stir_171 ?_
    refine lv_iload_n hx hb dX10_stir_172 rfl (lv_at hl 0 rfl) ?_
    refine lv_bipush (v := iI 32) hx hb dX10_stir_173 (by decide) ?_
    refine zi_div hx hb ⟨by omega, by omega⟩ ⟨by decide, by decide⟩ dX10_stir_175 ?_
    refine lv_bipush (v := iI 6) hx hb dX10_stir_176 (by decide) ?_
    refine zi_rem hx hb ⟨by omega, by omega⟩ ⟨by decide, by decide⟩ dX10_stir_178 ?_
    refine rw_V (As := [Value.int (iI ((r1 / 8) % 24)), Value.int (iI (((r1 / 8) / 32) % 6))]) (rest := []) ⟨hx, hb, hml, hown, hts⟩ (c_X10_runHang l g τ ma M R hI ((r1 / 8) % 24) ⟨by omega, by omega⟩ (((r1 / 8) / 32) % 6) ⟨by omega, by omega⟩) gX10_stir_X10_runHang cd_X10_runHang rfl rfl ⟨rfl, rfl⟩ ⟨Nat.le_of_ble_eq_true rfl, Nat.le_of_ble_eq_true rfl⟩ hK hP hD hS [0, 1] (rfl) (by decide) 0 rfl rfl rfl rfl hl rfl (Nat.le_of_ble_eq_true rfl) dX10_stir_179 ⟨Nat.le_of_ble_eq_true rfl, Nat.le_of_ble_eq_true rfl⟩ (fun v w h => by rw [h.2]; rfl) (fun v w1 H locs hZ hP hD hS => ?_)
    obtain ⟨rfl, rfl⟩ := hZ
    have hP : va_P g vwCl ([moO ma M, arC (ma 2) (τ 0) 291 (flR ((aHang R ((r1 / 8) % 24) (((r1 / 8) / 32) % 6)).2)), arC (ma 17) (τ 0) 6 P0]) H := hP
    have hD : va_D A ([moO ma M, arC (ma 2) (τ 0) 291 (flR ((aHang R ((r1 / 8) % 24) (((r1 / 8) / 32) % 6)).2)), arC (ma 17) (τ 0) 6 P0]) := hD
    refine tl_some ?_
    refine lv_istore_n (lv' := [(3, Value.int (iI (zB (decide (0 ≤ (aHang R ((r1 / 8) % 24) (((r1 / 8) / 32) % 6)).1))))), (2, Value.int (iI (r1 / 8))), (0, Value.ref (ma 0)), (1, Value.int (iI r1))]) hx hb dX10_stir_182 rfl hl (by decide) rfl (fun ls hl => ?_)
    refine lv_goto (tgt := 227) hx hb dX10_stir_183 (by decide) ?_
    exact rw_vret hx hb hr hlocks hP hS (by (have hq : qStir R r1 = (aHang R ((r1 / 8) % 24) (((r1 / 8) / 32) % 6)).2 := (by unfold qStir; rw [if_neg (by omega), if_neg (by omega), if_neg (by omega), if_pos (by omega)])); rw [hq]; exact ⟨rfl, _, _, AG_r _, rfl⟩) dX10_stir_227
  by_cases k_1_5 : (r1 % 8) = 5
  · refine zi_tabl (tgt := 186) (x := r1 % 8) k_1_5 hx hb ⟨by decide, by decide⟩ (v := 5) dX10_stir_9 (by decide) (by decide) (off := 177) (by decide +kernel) (by decide) ?_
    refine lv_aload_n hx hb dX10_stir_186 rfl (lv_at hl 1 rfl) ?_
    refine lv_iload_n hx hb dX10_stir_187 rfl (lv_at hl 0 rfl) ?_
    refine lv_bipush (v := iI 24) hx hb dX10_stir_188 (by decide) ?_
    refine zi_rem hx hb ⟨by omega, by omega⟩ ⟨by decide, by decide⟩ dX10_stir_190 ?_
    refine lv_iload_n hx hb dX10_stir_191 rfl (lv_at hl 0 rfl) ?_
    refine lv_bipush (v := iI 32) hx hb dX10_stir_192 (by decide) ?_
    refine zi_div hx hb ⟨by omega, by omega⟩ ⟨by decide, by decide⟩ dX10_stir_194 ?_
    refine lv_bipush (v := iI 6) hx hb dX10_stir_195 (by decide) ?_
    refine zi_rem hx hb ⟨by omega, by omega⟩ ⟨by decide, by decide⟩ dX10_stir_197 ?_
    refine lv_iconst (v := iI 0) hx hb dX10_stir_198 (by decide) ?_
    refine rw_V (As := [Value.int (iI ((r1 / 8) % 24)), Value.int (iI (((r1 / 8) / 32) % 6)), Value.int (iI 0)]) (rest := []) ⟨hx, hb, hml, hown, hts⟩ (c_X10_runShelve l g τ ma M R hI ((r1 / 8) % 24) ⟨by omega, by omega⟩ (((r1 / 8) / 32) % 6) ⟨by omega, by omega⟩ 0 ⟨by omega, by omega⟩) gX10_stir_X10_runShelve cd_X10_runShelve rfl rfl ⟨rfl, rfl⟩ ⟨Nat.le_of_ble_eq_true rfl, Nat.le_of_ble_eq_true rfl⟩ hK hP hD hS [0, 1] (rfl) (by decide) 0 rfl rfl rfl rfl hl rfl (Nat.le_of_ble_eq_true rfl) dX10_stir_199 ⟨Nat.le_of_ble_eq_true rfl, Nat.le_of_ble_eq_true rfl⟩ (fun v w h => by rw [h.2]; rfl) (fun v w1 H locs hZ hP hD hS => ?_)
    obtain ⟨rfl, rfl⟩ := hZ
    have hP : va_P g vwCl ([moO ma M, arC (ma 2) (τ 0) 291 (flR ((aShelve R ((r1 / 8) % 24) (((r1 / 8) / 32) % 6) 0).2)), arC (ma 17) (τ 0) 6 P0]) H := hP
    have hD : va_D A ([moO ma M, arC (ma 2) (τ 0) 291 (flR ((aShelve R ((r1 / 8) % 24) (((r1 / 8) / 32) % 6) 0).2)), arC (ma 17) (τ 0) 6 P0]) := hD
    refine tl_some ?_
    refine lv_istore_n (lv' := [(3, Value.int (iI (zB (decide (0 ≤ (aShelve R ((r1 / 8) % 24) (((r1 / 8) / 32) % 6) 0).1))))), (2, Value.int (iI (r1 / 8))), (0, Value.ref (ma 0)), (1, Value.int (iI r1))]) hx hb dX10_stir_202 rfl hl (by decide) rfl (fun ls hl => ?_)
    refine lv_goto (tgt := 227) hx hb dX10_stir_203 (by decide) ?_
    exact rw_vret hx hb hr hlocks hP hS (by (have hq : qStir R r1 = (aShelve R ((r1 / 8) % 24) (((r1 / 8) / 32) % 6) 0).2 := (by unfold qStir; rw [if_neg (by omega), if_neg (by omega), if_neg (by omega), if_neg (by omega), if_pos (by omega)])); rw [hq]; exact ⟨rfl, _, _, AG_r _, rfl⟩) dX10_stir_227
  by_cases k_1_6 : (r1 % 8) = 6
  · refine zi_tabl (tgt := 206) (x := r1 % 8) k_1_6 hx hb ⟨by decide, by decide⟩ (v := 6) dX10_stir_9 (by decide) (by decide) (off := 197) (by decide +kernel) (by decide) ?_
    refine lv_aload_n hx hb dX10_stir_206 rfl (lv_at hl 1 rfl) ?_
    refine lv_iload_n hx hb dX10_stir_207 rfl (lv_at hl 0 rfl) ?_
    refine lv_bipush (v := iI 24) hx hb dX10_stir_208 (by decide) ?_
    refine zi_rem hx hb ⟨by omega, by omega⟩ ⟨by decide, by decide⟩ dX10_stir_210 ?_
    refine rw_V (As := [Value.int (iI ((r1 / 8) % 24))]) (rest := []) ⟨hx, hb, hml, hown, hts⟩ (c_X10_runCut l g τ ma M R hI ((r1 / 8) % 24) ⟨by omega, by omega⟩) gX10_stir_X10_runCut cd_X10_runCut rfl rfl ⟨rfl, rfl⟩ ⟨Nat.le_of_ble_eq_true rfl, Nat.le_of_ble_eq_true rfl⟩ hK hP hD hS [0, 1] (rfl) (by decide) 0 rfl rfl rfl rfl hl rfl (Nat.le_of_ble_eq_true rfl) dX10_stir_211 ⟨Nat.le_of_ble_eq_true rfl, Nat.le_of_ble_eq_true rfl⟩ (fun v w h => by rw [h.2]; rfl) (fun v w1 H locs hZ hP hD hS => ?_)
    obtain ⟨rfl, rfl⟩ := hZ
    have hP : va_P g vwCl ([moO ma M, arC (ma 2) (τ 0) 291 (flR ((aCut R ((r1 / 8) % 24)).2)), arC (ma 17) (τ 0) 6 P0]) H := hP
    have hD : va_D A ([moO ma M, arC (ma 2) (τ 0) 291 (flR ((aCut R ((r1 / 8) % 24)).2)), arC (ma 17) (τ 0) 6 P0]) := hD
    refine tl_some ?_
    refine lv_istore_n (lv' := [(3, Value.int (iI (zB (decide (0 ≤ (aCut R ((r1 / 8) % 24)).1))))), (2, Value.int (iI (r1 / 8))), (0, Value.ref (ma 0)), (1, Value.int (iI r1))]) hx hb dX10_stir_214 rfl hl (by decide) rfl (fun ls hl => ?_)
    refine lv_goto (tgt := 227) hx hb dX10_stir_215 (by decide) ?_
    exact rw_vret hx hb hr hlocks hP hS (by (have hq : qStir R r1 = (aCut R ((r1 / 8) % 24)).2 := (by unfold qStir; rw [if_neg (by omega), if_neg (by omega), if_neg (by omega), if_neg (by omega), if_neg (by omega), if_pos (by omega)])); rw [hq]; exact ⟨rfl, _, _, AG_r _, rfl⟩) dX10_stir_227
  refine zi_tablD (x := r1 % 8) (tgt := 218) ⟨by omega, by omega⟩ hx hb dX10_stir_9 (by omega) (by decide) ?_
  refine lv_aload_n hx hb dX10_stir_218 rfl (lv_at hl 1 rfl) ?_
  refine lv_iload_n hx hb dX10_stir_219 rfl (lv_at hl 0 rfl) ?_
  refine lv_bipush (v := iI 6) hx hb dX10_stir_220 (by decide) ?_
  refine zi_rem hx hb ⟨by omega, by omega⟩ ⟨by decide, by decide⟩ dX10_stir_222 ?_
  refine rw_V (As := [Value.int (iI ((r1 / 8) % 6))]) (rest := []) ⟨hx, hb, hml, hown, hts⟩ (c_X10_runSort l g τ ma M R hI P0 ((r1 / 8) % 6) ⟨by omega, by omega⟩) gX10_stir_X10_runSort cd_X10_runSort rfl rfl ⟨rfl, rfl⟩ ⟨Nat.le_of_ble_eq_true rfl, Nat.le_of_ble_eq_true rfl⟩ hK hP hD hS [0, 1, 2] (rfl) (by decide) 0 rfl rfl rfl rfl hl rfl (Nat.le_of_ble_eq_true rfl) dX10_stir_223 ⟨Nat.le_of_ble_eq_true rfl, Nat.le_of_ble_eq_true rfl⟩ (fun v w h => by obtain ⟨-, M9, P9, -, rfl⟩ := h; rfl) (fun v w1 H locs hZ hP hD hS => ?_)
  obtain ⟨rfl, M_10, P_M_10, hgM_10, rfl⟩ := hZ
  have hP : va_P g vwCl ([moO ma M_10, arC (ma 2) (τ 0) 291 (flR (rsR R ((r1 / 8) % 6))), arC (ma 17) (τ 0) 6 P_M_10]) H := hP
  have hD : va_D A ([moO ma M_10, arC (ma 2) (τ 0) 291 (flR (rsR R ((r1 / 8) % 6))), arC (ma 17) (τ 0) 6 P_M_10]) := hD
  refine tl_some ?_
  refine lv_istore_n (lv' := [(3, Value.int (iI (zB (decide (0 ≤ (r1 / 8) % 6 ∧ (r1 / 8) % 6 ≤ 5))))), (2, Value.int (iI (r1 / 8))), (0, Value.ref (ma 0)), (1, Value.int (iI r1))]) hx hb dX10_stir_226 rfl hl (by decide) rfl (fun ls hl => ?_)
  exact rw_vret hx hb hr hlocks hP hS (by (have hq : qStir R r1 = rsR R ((r1 / 8) % 6) := (by unfold qStir; rw [if_neg (by omega), if_neg (by omega), if_neg (by omega), if_neg (by omega), if_neg (by omega), if_neg (by omega)])); rw [hq]; exact ⟨rfl, _, _, AG_t (AG_r _) hgM_10, rfl⟩) dX10_stir_227
