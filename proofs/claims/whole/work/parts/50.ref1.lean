/-! longs as integers; the reference's flat row -/
def iL (z : Int) : Int64 := Int64.ofInt z
abbrev rngl (z : Int) : Prop := -9223372036854775808 ≤ z ∧ z < 9223372036854775808
theorem iL_to {z : Int} (h : rngl z) : (iL z).toInt = z := by
  unfold iL
  rw [Int64.toInt_ofInt]
  have := h.1
  have := h.2
  have e : Int64.size = 18446744073709551616 := rfl
  rw [e]
  exact Int.bmod_eq_of_le (by omega) (by omega)
theorem i2l_iL {z : Int} (h : rng z) : (iI z).toInt64 = iL z := Int64.toInt_inj.mp (by
  rw [Int32.toInt_toInt64, iI_to h, iL_to (by have := h.1; have := h.2; exact ⟨by omega, by omega⟩)])
theorem iL_lt {a b : Int} (ha : rngl a) (hb : rngl b) : (iL a < iL b) ↔ a < b := by
  rw [Int64.lt_iff_toInt_lt, iL_to ha, iL_to hb]
theorem iL_eq {a b : Int} (ha : rngl a) (hb : rngl b) : (iL a = iL b) ↔ a = b := by
  rw [← Int64.toInt_inj, iL_to ha, iL_to hb]
theorem iL_mul (a b : Int) : iL a * iL b = iL (a * b) := by
  unfold iL
  rw [Int64.ofInt_mul]
theorem iL_add (a b : Int) : iL a + iL b = iL (a + b) := by
  unfold iL
  rw [Int64.ofInt_add]
theorem lgc {a b : Int} (ha : rngl a) (hb : rngl b) : lg_cmp (iL a) (iL b) = iI (if b < a then 1 else if a = b then 0 else -1) := by
  unfold lg_cmp
  by_cases h : b < a
  · rw [if_pos h, if_pos ((iL_lt hb ha).mpr h)]; rfl
  · rw [if_neg h, if_neg (fun q => h ((iL_lt hb ha).mp q))]
    by_cases e : a = b
    · rw [if_pos e, if_pos ((iL_eq ha hb).mpr e)]; rfl
    · rw [if_neg e, if_neg (fun q => e ((iL_eq ha hb).mp q))]; rfl
section ZL
variable {p : Program} {l : Launch} {e : Env} {R : Room} {s : State} {m : MethodId} {args : Array Value} {below : List Frame} {meth : Method} {c : Code} {H H0 : Heap} {locs : List Loc} {cells slots : Nat} {Q : State → Prop}
variable {cc : ByteArray} {nL pc : Nat} {rest : List Value} {ls : Array Slot} {g : va_G} {τ : Nat → ClassId} {ws wo : va_W} {A : Nat → Prop} {a b off : Int} {tgt : Nat}
theorem zl_lt (ha : rngl a) (h2 : rngl b) (hx : p.tables.exec = Jvm.exec) (hb : c.code = cc) (d : decode cc pc = .ok (.lcmp, 1)) (d2 : decode cc (pc + 1) = .ok (.ifCond .lt off, 3)) (ht : ((pc + 1 : Nat) : Int) + off = (tgt : Int)) (kt : a < b → W p l e R s m args below meth c H locs cells slots Q (F0 m tgt ls rest)) (kf : b ≤ a → W p l e R s m args below meth c H locs cells slots Q (F0 m (pc + 1 + 3) ls rest)) : W p l e R s m args below meth c H locs cells slots Q (F0 m pc ls (.long (iL b) :: .long (iL a) :: rest)) := by
  refine W.lcmp hx hb d ?_
  rw [lgc ha h2]
  refine zi_if_lt hx hb (by constructor <;> (split <;> try split) <;> omega) d2 ht (fun q => kt ?_) (fun q => kf ?_)
  · split at q
    · omega
    · split at q <;> omega
  · split at q
    · omega
    · split at q <;> omega
theorem zl_gt (ha : rngl a) (h2 : rngl b) (hx : p.tables.exec = Jvm.exec) (hb : c.code = cc) (d : decode cc pc = .ok (.lcmp, 1)) (d2 : decode cc (pc + 1) = .ok (.ifCond .gt off, 3)) (ht : ((pc + 1 : Nat) : Int) + off = (tgt : Int)) (kt : b < a → W p l e R s m args below meth c H locs cells slots Q (F0 m tgt ls rest)) (kf : a ≤ b → W p l e R s m args below meth c H locs cells slots Q (F0 m (pc + 1 + 3) ls rest)) : W p l e R s m args below meth c H locs cells slots Q (F0 m pc ls (.long (iL b) :: .long (iL a) :: rest)) := by
  refine W.lcmp hx hb d ?_
  rw [lgc ha h2]
  refine zi_if_gt hx hb (by constructor <;> (split <;> try split) <;> omega) d2 ht (fun q => kt ?_) (fun q => kf ?_)
  · split at q
    · omega
    · split at q <;> omega
  · split at q
    · omega
    · split at q <;> omega
theorem zf_ald (hx : p.tables.exec = Jvm.exec) (hb : c.code = cc) (hK : KK g τ s) (hP : va_P g vwCl ws H) (q0 : Nat) {aa N : Nat} {f : Nat → Int} (ha : ws[q0]? = some (aa, .inl (τ 0, N, .inl (fun j => iI (f j))))) {i z : Int} (k : Nat) (hi : i = (k : Int)) (hk : k < N) (hN : N < 2 ^ 31) (hv : f k = z) (d : decode cc pc = .ok (.iaload, 1))
    (kk : W p l e R s m args below meth c H locs cells slots Q (F0 m (pc + 1) ls (.int (iI z) :: rest))) : W p l e R s m args below meth c H locs cells slots Q (F0 m pc ls (.int (iI i) :: .ref aa :: rest)) := by
  subst hv
  exact zi_ald hx hb hK hP q0 ha k hi hk hN d kk
theorem zf_ast (hx : p.tables.exec = Jvm.exec) (hb : c.code = cc) (hK : KK g τ s) (hP : va_P g vwCl ws H) (hD : va_D A ws) (hS : va_S A H0 H locs) (q0 : Nat) {aa N : Nat} {f f2 : Nat → Int} (ha : ws[q0]? = some (aa, .inl (τ 0, N, .inl (fun j => iI (f j))))) {i z : Int} (k : Nat) (hi : i = (k : Int)) (hk : k < N) (hN : N < 2 ^ 31) (hv : updZ f k z = f2) (d : decode cc pc = .ok (.iastore, 1)) (hwo : ws.set q0 (aa, .inl (τ 0, N, .inl (fun j => iI (f2 j)))) = wo)
    (kk : ∀ (H1 : Heap) (locs1 : List Loc), va_P g vwCl wo H1 → va_D A wo → va_S A H0 H1 locs1 → W p l e R s m args below meth c H1 locs1 cells slots Q (F0 m (pc + 1) ls rest)) : W p l e R s m args below meth c H locs cells slots Q (F0 m pc ls (.int (iI z) :: .int (iI i) :: .ref aa :: rest)) := by
  subst hv
  exact zi_ast hx hb hK hP hD hS q0 ha k hi hk hN d hwo kk
end ZL
def flR (R : Nat → Nat → Int) (j : Nat) : Int := if j < 1 then R 1 0 else if j < 2 then R 4 0 else if j < 3 then R 10 0 else if j < 5 then R 20 (j - 3) else if j < 15 then R 2 (j - 5) else if j < 25 then R 3 (j - 15) else if j < 35 then R 5 (j - 25) else if j < 45 then R 6 (j - 35) else if j < 55 then R 7 (j - 45) else if j < 65 then R 8 (j - 55) else if j < 105 then R 9 (j - 65) else if j < 129 then R 11 (j - 105) else if j < 153 then R 12 (j - 129) else if j < 177 then R 13 (j - 153) else if j < 201 then R 14 (j - 177) else if j < 225 then R 15 (j - 201) else if j < 249 then R 16 (j - 225) else if j < 255 then R 18 (j - 249) else R 19 (j - 255)
def flW (fa : Nat) (R : Nat → Nat → Int) (τ : Nat → ClassId) : va_W := [(fa, .inl (τ 0, 291, .inl (fun j => iI (flR R j))))]
theorem fl_1 {R : Nat → Nat → Int} : flR R 0 = R 1 0 := rfl
theorem fl_4 {R : Nat → Nat → Int} : flR R 1 = R 4 0 := rfl
theorem fl_10 {R : Nat → Nat → Int} : flR R 2 = R 10 0 := rfl
theorem fl_20 {R : Nat → Nat → Int} {j i : Nat} (hj : j = 3 + i) (hi : i < 2) : flR R j = R 20 i := by
  subst hj
  unfold flR
  rw [if_neg (by omega)]; rw [if_neg (by omega)]; rw [if_neg (by omega)]; rw [if_pos (by omega)]; rw [show 3 + i - 3 = i from by omega]
theorem fl_2 {R : Nat → Nat → Int} {j i : Nat} (hj : j = 5 + i) (hi : i < 10) : flR R j = R 2 i := by
  subst hj
  unfold flR
  rw [if_neg (by omega)]; rw [if_neg (by omega)]; rw [if_neg (by omega)]; rw [if_neg (by omega)]; rw [if_pos (by omega)]; rw [show 5 + i - 5 = i from by omega]
theorem fl_3 {R : Nat → Nat → Int} {j i : Nat} (hj : j = 15 + i) (hi : i < 10) : flR R j = R 3 i := by
  subst hj
  unfold flR
  rw [if_neg (by omega)]; rw [if_neg (by omega)]; rw [if_neg (by omega)]; rw [if_neg (by omega)]; rw [if_neg (by omega)]; rw [if_pos (by omega)]; rw [show 15 + i - 15 = i from by omega]
theorem fl_5 {R : Nat → Nat → Int} {j i : Nat} (hj : j = 25 + i) (hi : i < 10) : flR R j = R 5 i := by
  subst hj
  unfold flR
  rw [if_neg (by omega)]; rw [if_neg (by omega)]; rw [if_neg (by omega)]; rw [if_neg (by omega)]; rw [if_neg (by omega)]; rw [if_neg (by omega)]; rw [if_pos (by omega)]; rw [show 25 + i - 25 = i from by omega]
theorem fl_6 {R : Nat → Nat → Int} {j i : Nat} (hj : j = 35 + i) (hi : i < 10) : flR R j = R 6 i := by
  subst hj
  unfold flR
  rw [if_neg (by omega)]; rw [if_neg (by omega)]; rw [if_neg (by omega)]; rw [if_neg (by omega)]; rw [if_neg (by omega)]; rw [if_neg (by omega)]; rw [if_neg (by omega)]; rw [if_pos (by omega)]; rw [show 35 + i - 35 = i from by omega]
theorem fl_7 {R : Nat → Nat → Int} {j i : Nat} (hj : j = 45 + i) (hi : i < 10) : flR R j = R 7 i := by
  subst hj
  unfold flR
  rw [if_neg (by omega)]; rw [if_neg (by omega)]; rw [if_neg (by omega)]; rw [if_neg (by omega)]; rw [if_neg (by omega)]; rw [if_neg (by omega)]; rw [if_neg (by omega)]; rw [if_neg (by omega)]; rw [if_pos (by omega)]; rw [show 45 + i - 45 = i from by omega]
theorem fl_8 {R : Nat → Nat → Int} {j i : Nat} (hj : j = 55 + i) (hi : i < 10) : flR R j = R 8 i := by
  subst hj
  unfold flR
  rw [if_neg (by omega)]; rw [if_neg (by omega)]; rw [if_neg (by omega)]; rw [if_neg (by omega)]; rw [if_neg (by omega)]; rw [if_neg (by omega)]; rw [if_neg (by omega)]; rw [if_neg (by omega)]; rw [if_neg (by omega)]; rw [if_pos (by omega)]; rw [show 55 + i - 55 = i from by omega]
theorem fl_9 {R : Nat → Nat → Int} {j i : Nat} (hj : j = 65 + i) (hi : i < 40) : flR R j = R 9 i := by
  subst hj
  unfold flR
  rw [if_neg (by omega)]; rw [if_neg (by omega)]; rw [if_neg (by omega)]; rw [if_neg (by omega)]; rw [if_neg (by omega)]; rw [if_neg (by omega)]; rw [if_neg (by omega)]; rw [if_neg (by omega)]; rw [if_neg (by omega)]; rw [if_neg (by omega)]; rw [if_pos (by omega)]; rw [show 65 + i - 65 = i from by omega]
theorem fl_11 {R : Nat → Nat → Int} {j i : Nat} (hj : j = 105 + i) (hi : i < 24) : flR R j = R 11 i := by
  subst hj
  unfold flR
  rw [if_neg (by omega)]; rw [if_neg (by omega)]; rw [if_neg (by omega)]; rw [if_neg (by omega)]; rw [if_neg (by omega)]; rw [if_neg (by omega)]; rw [if_neg (by omega)]; rw [if_neg (by omega)]; rw [if_neg (by omega)]; rw [if_neg (by omega)]; rw [if_neg (by omega)]; rw [if_pos (by omega)]; rw [show 105 + i - 105 = i from by omega]
theorem fl_12 {R : Nat → Nat → Int} {j i : Nat} (hj : j = 129 + i) (hi : i < 24) : flR R j = R 12 i := by
  subst hj
  unfold flR
  rw [if_neg (by omega)]; rw [if_neg (by omega)]; rw [if_neg (by omega)]; rw [if_neg (by omega)]; rw [if_neg (by omega)]; rw [if_neg (by omega)]; rw [if_neg (by omega)]; rw [if_neg (by omega)]; rw [if_neg (by omega)]; rw [if_neg (by omega)]; rw [if_neg (by omega)]; rw [if_neg (by omega)]; rw [if_pos (by omega)]; rw [show 129 + i - 129 = i from by omega]
theorem fl_13 {R : Nat → Nat → Int} {j i : Nat} (hj : j = 153 + i) (hi : i < 24) : flR R j = R 13 i := by
  subst hj
  unfold flR
  rw [if_neg (by omega)]; rw [if_neg (by omega)]; rw [if_neg (by omega)]; rw [if_neg (by omega)]; rw [if_neg (by omega)]; rw [if_neg (by omega)]; rw [if_neg (by omega)]; rw [if_neg (by omega)]; rw [if_neg (by omega)]; rw [if_neg (by omega)]; rw [if_neg (by omega)]; rw [if_neg (by omega)]; rw [if_neg (by omega)]; rw [if_pos (by omega)]; rw [show 153 + i - 153 = i from by omega]
theorem fl_14 {R : Nat → Nat → Int} {j i : Nat} (hj : j = 177 + i) (hi : i < 24) : flR R j = R 14 i := by
  subst hj
  unfold flR
  rw [if_neg (by omega)]; rw [if_neg (by omega)]; rw [if_neg (by omega)]; rw [if_neg (by omega)]; rw [if_neg (by omega)]; rw [if_neg (by omega)]; rw [if_neg (by omega)]; rw [if_neg (by omega)]; rw [if_neg (by omega)]; rw [if_neg (by omega)]; rw [if_neg (by omega)]; rw [if_neg (by omega)]; rw [if_neg (by omega)]; rw [if_neg (by omega)]; rw [if_pos (by omega)]; rw [show 177 + i - 177 = i from by omega]
theorem fl_15 {R : Nat → Nat → Int} {j i : Nat} (hj : j = 201 + i) (hi : i < 24) : flR R j = R 15 i := by
  subst hj
  unfold flR
  rw [if_neg (by omega)]; rw [if_neg (by omega)]; rw [if_neg (by omega)]; rw [if_neg (by omega)]; rw [if_neg (by omega)]; rw [if_neg (by omega)]; rw [if_neg (by omega)]; rw [if_neg (by omega)]; rw [if_neg (by omega)]; rw [if_neg (by omega)]; rw [if_neg (by omega)]; rw [if_neg (by omega)]; rw [if_neg (by omega)]; rw [if_neg (by omega)]; rw [if_neg (by omega)]; rw [if_pos (by omega)]; rw [show 201 + i - 201 = i from by omega]
theorem fl_16 {R : Nat → Nat → Int} {j i : Nat} (hj : j = 225 + i) (hi : i < 24) : flR R j = R 16 i := by
  subst hj
  unfold flR
  rw [if_neg (by omega)]; rw [if_neg (by omega)]; rw [if_neg (by omega)]; rw [if_neg (by omega)]; rw [if_neg (by omega)]; rw [if_neg (by omega)]; rw [if_neg (by omega)]; rw [if_neg (by omega)]; rw [if_neg (by omega)]; rw [if_neg (by omega)]; rw [if_neg (by omega)]; rw [if_neg (by omega)]; rw [if_neg (by omega)]; rw [if_neg (by omega)]; rw [if_neg (by omega)]; rw [if_neg (by omega)]; rw [if_pos (by omega)]; rw [show 225 + i - 225 = i from by omega]
theorem fl_18 {R : Nat → Nat → Int} {j i : Nat} (hj : j = 249 + i) (hi : i < 6) : flR R j = R 18 i := by
  subst hj
  unfold flR
  rw [if_neg (by omega)]; rw [if_neg (by omega)]; rw [if_neg (by omega)]; rw [if_neg (by omega)]; rw [if_neg (by omega)]; rw [if_neg (by omega)]; rw [if_neg (by omega)]; rw [if_neg (by omega)]; rw [if_neg (by omega)]; rw [if_neg (by omega)]; rw [if_neg (by omega)]; rw [if_neg (by omega)]; rw [if_neg (by omega)]; rw [if_neg (by omega)]; rw [if_neg (by omega)]; rw [if_neg (by omega)]; rw [if_neg (by omega)]; rw [if_pos (by omega)]; rw [show 249 + i - 249 = i from by omega]
theorem fl_19 {R : Nat → Nat → Int} {j i : Nat} (hj : j = 255 + i) (hi : i < 36) : flR R j = R 19 i := by
  subst hj
  unfold flR
  rw [if_neg (by omega)]; rw [if_neg (by omega)]; rw [if_neg (by omega)]; rw [if_neg (by omega)]; rw [if_neg (by omega)]; rw [if_neg (by omega)]; rw [if_neg (by omega)]; rw [if_neg (by omega)]; rw [if_neg (by omega)]; rw [if_neg (by omega)]; rw [if_neg (by omega)]; rw [if_neg (by omega)]; rw [if_neg (by omega)]; rw [if_neg (by omega)]; rw [if_neg (by omega)]; rw [if_neg (by omega)]; rw [if_neg (by omega)]; rw [if_neg (by omega)]; rw [show 255 + i - 255 = i from by omega]
def rMask (R : Nat → Nat → Int) (s : Nat) : Int := if R 13 s = -1 then 0 else (2 : Int) ^ (R 13 s).toNat
/-! the reference's years: w the colours that are asked for, n the reigns looked at -/
def rFr (R : Nat → Nat → Int) (lo w : Int) (i : Nat) : Int := if ¬ w = 0 ∧ lo < R 2 i then R 2 i else lo
def rTo (R : Nat → Nat → Int) (hi w : Int) (i : Nat) : Int := if ¬ w = 0 ∧ kLast R (R 1 0).toNat (i + 1) < hi then kLast R (R 1 0).toNat (i + 1) else hi
def rOk (R : Nat → Nat → Int) (lo hi w : Int) (i : Nat) : Bool := decide (rFr R lo w i ≤ rTo R hi w i) && (decide (w = 0) || decide (zand (R 3 i) w = w))
def rF (R : Nat → Nat → Int) (lo hi w : Int) : Nat → Int
  | 0 => -1
  | i + 1 => if rOk R lo hi w i = true ∧ rF R lo hi w i = -1 then rFr R lo w i else rF R lo hi w i
def rL (R : Nat → Nat → Int) (lo hi w : Int) : Nat → Int
  | 0 => -1
  | i + 1 => if rOk R lo hi w i = true then rTo R hi w i else rL R lo hi w i
def rC (R : Nat → Nat → Int) (lo hi w : Int) : Nat → Int
  | 0 => 0
  | i + 1 => rC R lo hi w i + (if rOk R lo hi w i = true then rTo R hi w i - rFr R lo w i + 1 else 0)
def rN (R : Nat → Nat → Int) (w : Int) : Nat := if w = 0 then 1 else (R 1 0).toNat
def rY (R : Nat → Nat → Int) (lo hi w q : Int) : Int := if q = 0 then rF R lo hi w (rN R w) else if q = 1 then rL R lo hi w (rN R w) else rC R lo hi w (rN R w)
theorem rF_r {R : Nat → Nat → Int} (hB : HB R) {lo hi w : Int} (h : -1 ≤ lo ∧ lo < 65536) : ∀ i, -1 ≤ rF R lo hi w i ∧ rF R lo hi w i < 65536
  | 0 => by show -1 ≤ (-1 : Int) ∧ (-1 : Int) < 65536; decide
  | i + 1 => by
    have := rF_r hB (hi := hi) (w := w) h i
    have := hB 2 i
    unfold rF rFr
    repeat' split
    all_goals omega
theorem kLast_b {R : Nat → Nat → Int} (hB : HB R) (n i : Nat) : -2 ≤ kLast R n i ∧ kLast R n i < 65536 := by
  have := hB 2 i
  unfold kLast
  split <;> omega
theorem dFirst_b {R : Nat → Nat → Int} (hB : HB R) (d : Nat) (sh : Int) : ∀ m, -1 ≤ dFirst R d sh m ∧ dFirst R d sh m < 65536
  | 0 => hB 6 d
  | m + 1 => by
    have := dFirst_b hB d sh m
    have := hB 9 (d * 4 + m)
    unfold dFirst
    split <;> omega
theorem dLast_b {R : Nat → Nat → Int} (hB : HB R) (d : Nat) (sh : Int) : ∀ m, -1 ≤ dLast R d sh m ∧ dLast R d sh m < 65536
  | 0 => hB 7 d
  | m + 1 => by
    have := dLast_b hB d sh m
    have := hB 9 (d * 4 + m)
    unfold dLast
    split <;> omega

theorem cd_X10_in : cd yX10_in 3 := by decide +kernel
set_option maxHeartbeats 1000000 in
set_option maxRecDepth 100000 in
theorem c_X10_in (l : Launch) (g : va_G) (τ : Nat → ClassId) (x a b : Int) (hxr : rngl x) (har : rngl a) (hbr : rngl b)  : Met l yX10_in wsX10_in { frames := 0, cells := 0, slots := 0, locals := 0 } (va_Pc [Value.long (iL x), Value.long (iL a), Value.long (iL b)] (roW g τ ([]))) (roQ (some (Value.int (iI (zB (decide (a ≤ x ∧ x ≤ b))))))) 0 0 nof := by
  refine roMet (cc := cX10_in) (maxL := 6) (ret := (some .boolean)) (lv := [(0, Value.long (iL x)), (2, Value.long (iL a)), (4, Value.long (iL b))]) (by decide) rfl (Nat.le_of_ble_eq_true rfl) rfl ?_
  intro p e s m below meth c hx hb hr hml hts hown hlocks hP hK ls hl
  refine lv_lload_n hx hb dX10_in_0 rfl (lv_at hl 0 rfl) ?_
  refine lv_lload_n hx hb dX10_in_1 rfl (lv_at hl 1 rfl) ?_
  refine zl_lt (tgt := 17) ⟨by omega, by omega⟩ ⟨by omega, by omega⟩ hx hb dX10_in_2 dX10_in_3 (by decide) (fun c_1 => ?_) (fun c_1 => ?_)
  · have _ := c_1
    refine lv_iconst (v := iI 0) hx hb dX10_in_17 (by decide) ?_
    exact zo_zret hx hb hr hlocks (by first | (rw [decide_eq_true ⟨by omega, by omega⟩]; rfl) | (rw [decide_eq_false (fun q => by omega)]; rfl)) dX10_in_18
  · have _ := c_1
    refine lv_lload_n hx hb dX10_in_6 rfl (lv_at hl 0 rfl) ?_
    refine lv_lload hx hb dX10_in_7 (lv_at hl 2 rfl) ?_
    refine zl_gt (tgt := 17) ⟨by omega, by omega⟩ ⟨by omega, by omega⟩ hx hb dX10_in_9 dX10_in_10 (by decide) (fun c_2 => ?_) (fun c_2 => ?_)
    · have _ := c_2
      refine lv_iconst (v := iI 0) hx hb dX10_in_17 (by decide) ?_
      exact zo_zret hx hb hr hlocks (by first | (rw [decide_eq_true ⟨by omega, by omega⟩]; rfl) | (rw [decide_eq_false (fun q => by omega)]; rfl)) dX10_in_18
    · have _ := c_2
      refine lv_iconst (v := iI 1) hx hb dX10_in_13 (by decide) ?_
      refine lv_goto (tgt := 18) hx hb dX10_in_14 (by decide) ?_
      exact zo_zret hx hb hr hlocks (by first | (rw [decide_eq_true ⟨by omega, by omega⟩]; rfl) | (rw [decide_eq_false (fun q => by omega)]; rfl)) dX10_in_18

theorem cd_X10_isYear : cd yX10_isYear 1 := by decide +kernel
set_option maxHeartbeats 1000000 in
set_option maxRecDepth 100000 in
theorem c_X10_isYear (l : Launch) (g : va_G) (τ : Nat → ClassId) (z : Int) (rz : -2147483648 ≤ z ∧ z < 2147483648)  : Met l yX10_isYear wsX10_isYear { frames := 1, cells := 0, slots := 0, locals := 25 } (va_Pc [Value.int (iI z)] (roW g τ ([]))) (roQ (some (Value.int (iI (zB (decide (1000 ≤ z ∧ z ≤ 1999))))))) 0 0 nof := by
  refine roMet (cc := cX10_isYear) (maxL := 1) (ret := (some .boolean)) (lv := [(0, Value.int (iI z))]) (by decide) rfl (Nat.le_of_ble_eq_true rfl) rfl ?_
  intro p e s m below meth c hx hb hr hml hts hown hlocks hP hK ls hl
  refine lv_iload_n hx hb dX10_isYear_0 rfl (lv_at hl 0 rfl) ?_
  refine lv_i2l (v := (iI z).toInt64) hx hb dX10_isYear_1 rfl ?_
  refine cv_l (y := iL z) (i2l_iL ⟨by omega, by omega⟩) ?_
  refine lv_ldc2 (v := 1000) hx hb hown (hts _ (List.mem_of_getElem? (i := 1) rfl)) dX10_isYear_2 ?_
  refine cv_l (y := iL 1000) (by decide) ?_
  refine lv_ldc2 (v := 1999) hx hb hown (hts _ (List.mem_of_getElem? (i := 2) rfl)) dX10_isYear_5 ?_
  refine cv_l (y := iL 1999) (by decide) ?_
  refine ro_S (As := [Value.long (iL z), Value.long (iL 1000), Value.long (iL 1999)]) (rest := []) (v := some (Value.int (iI (zB (decide (1000 ≤ z ∧ z ≤ 1999)))))) ⟨hx, hb, hml, hown, hts⟩ (c_X10_in l g τ z 1000 1999 ⟨by omega, by omega⟩ ⟨by omega, by omega⟩ ⟨by omega, by omega⟩) gX10_isYear_X10_in cd_X10_in rfl ⟨rfl, rfl⟩ ⟨Nat.le_of_ble_eq_true rfl, Nat.le_of_ble_eq_true rfl⟩ hK (fun _ _ h => by cases h) rfl hl rfl (Nat.le_of_ble_eq_true rfl) dX10_isYear_8 ⟨Nat.le_of_ble_eq_true rfl, Nat.le_of_ble_eq_true rfl⟩ ?_
  refine tl_some ?_
  exact zo_zret hx hb hr hlocks (rfl) dX10_isYear_11

theorem cd_X10_isCharter : cd yX10_isCharter 1 := by decide +kernel
set_option maxHeartbeats 1000000 in
set_option maxRecDepth 100000 in
theorem c_X10_isCharter (l : Launch) (g : va_G) (τ : Nat → ClassId) (z : Int) (rz : -2147483648 ≤ z ∧ z < 2147483648)  : Met l yX10_isCharter wsX10_isCharter { frames := 1, cells := 0, slots := 0, locals := 25 } (va_Pc [Value.int (iI z)] (roW g τ ([]))) (roQ (some (Value.int (iI (zB (decide (0 ≤ z ∧ z ≤ 5))))))) 0 0 nof := by
  refine roMet (cc := cX10_isCharter) (maxL := 1) (ret := (some .boolean)) (lv := [(0, Value.int (iI z))]) (by decide) rfl (Nat.le_of_ble_eq_true rfl) rfl ?_
  intro p e s m below meth c hx hb hr hml hts hown hlocks hP hK ls hl
  refine lv_iload_n hx hb dX10_isCharter_0 rfl (lv_at hl 0 rfl) ?_
  refine lv_i2l (v := (iI z).toInt64) hx hb dX10_isCharter_1 rfl ?_
  refine cv_l (y := iL z) (i2l_iL ⟨by omega, by omega⟩) ?_
  refine lv_lconst (v := 0) hx hb dX10_isCharter_2 (by decide) ?_
  refine cv_l (y := iL 0) (by decide) ?_
  refine lv_ldc2 (v := 5) hx hb hown (hts _ (List.mem_of_getElem? (i := 1) rfl)) dX10_isCharter_3 ?_
  refine cv_l (y := iL 5) (by decide) ?_
  refine ro_S (As := [Value.long (iL z), Value.long (iL 0), Value.long (iL 5)]) (rest := []) (v := some (Value.int (iI (zB (decide (0 ≤ z ∧ z ≤ 5)))))) ⟨hx, hb, hml, hown, hts⟩ (c_X10_in l g τ z 0 5 ⟨by omega, by omega⟩ ⟨by omega, by omega⟩ ⟨by omega, by omega⟩) gX10_isCharter_X10_in cd_X10_in rfl ⟨rfl, rfl⟩ ⟨Nat.le_of_ble_eq_true rfl, Nat.le_of_ble_eq_true rfl⟩ hK (fun _ _ h => by cases h) rfl hl rfl (Nat.le_of_ble_eq_true rfl) dX10_isCharter_6 ⟨Nat.le_of_ble_eq_true rfl, Nat.le_of_ble_eq_true rfl⟩ ?_
  refine tl_some ?_
  exact zo_zret hx hb hr hlocks (rfl) dX10_isCharter_9

theorem cd_X10_isShelf : cd yX10_isShelf 1 := by decide +kernel
set_option maxHeartbeats 1000000 in
set_option maxRecDepth 100000 in
theorem c_X10_isShelf (l : Launch) (g : va_G) (τ : Nat → ClassId) (z : Int) (rz : -2147483648 ≤ z ∧ z < 2147483648)  : Met l yX10_isShelf wsX10_isShelf { frames := 1, cells := 0, slots := 0, locals := 25 } (va_Pc [Value.int (iI z)] (roW g τ ([]))) (roQ (some (Value.int (iI (zB (decide (0 ≤ z ∧ z ≤ 5))))))) 0 0 nof := by
  refine roMet (cc := cX10_isShelf) (maxL := 1) (ret := (some .boolean)) (lv := [(0, Value.int (iI z))]) (by decide) rfl (Nat.le_of_ble_eq_true rfl) rfl ?_
  intro p e s m below meth c hx hb hr hml hts hown hlocks hP hK ls hl
  refine lv_iload_n hx hb dX10_isShelf_0 rfl (lv_at hl 0 rfl) ?_
  refine lv_i2l (v := (iI z).toInt64) hx hb dX10_isShelf_1 rfl ?_
  refine cv_l (y := iL z) (i2l_iL ⟨by omega, by omega⟩) ?_
  refine lv_lconst (v := 0) hx hb dX10_isShelf_2 (by decide) ?_
  refine cv_l (y := iL 0) (by decide) ?_
  refine lv_ldc2 (v := 5) hx hb hown (hts _ (List.mem_of_getElem? (i := 1) rfl)) dX10_isShelf_3 ?_
  refine cv_l (y := iL 5) (by decide) ?_
  refine ro_S (As := [Value.long (iL z), Value.long (iL 0), Value.long (iL 5)]) (rest := []) (v := some (Value.int (iI (zB (decide (0 ≤ z ∧ z ≤ 5)))))) ⟨hx, hb, hml, hown, hts⟩ (c_X10_in l g τ z 0 5 ⟨by omega, by omega⟩ ⟨by omega, by omega⟩ ⟨by omega, by omega⟩) gX10_isShelf_X10_in cd_X10_in rfl ⟨rfl, rfl⟩ ⟨Nat.le_of_ble_eq_true rfl, Nat.le_of_ble_eq_true rfl⟩ hK (fun _ _ h => by cases h) rfl hl rfl (Nat.le_of_ble_eq_true rfl) dX10_isShelf_6 ⟨Nat.le_of_ble_eq_true rfl, Nat.le_of_ble_eq_true rfl⟩ ?_
  refine tl_some ?_
  exact zo_zret hx hb hr hlocks (rfl) dX10_isShelf_9

theorem cd_X10_hasReign : cd yX10_hasReign 2 := by decide +kernel
set_option maxHeartbeats 1000000 in
set_option maxRecDepth 100000 in
theorem c_X10_hasReign (l : Launch) (g : va_G) (τ : Nat → ClassId) (fa : Nat) (R : Nat → Nat → Int) (hI : SI R) (z : Int) (rz : -2147483648 ≤ z ∧ z < 2147483648)  : Met l yX10_hasReign wsX10_hasReign { frames := 1, cells := 0, slots := 0, locals := 25 } (va_Pc [Value.ref fa, Value.int (iI z)] (roW g τ (flW fa R τ))) (roQ (some (Value.int (iI (zB (decide (0 ≤ z ∧ z ≤ R 1 0 - 1))))))) 0 0 nof := by
  have hB := hI.hB
  have hr0 := hI.r
  have hd0 := hI.d
  have hs0 := hI.s
  refine roMet (cc := cX10_hasReign) (maxL := 2) (ret := (some .boolean)) (lv := [(0, Value.ref fa), (1, Value.int (iI z))]) (by decide) rfl (Nat.le_of_ble_eq_true rfl) rfl ?_
  intro p e s m below meth c hx hb hr hml hts hown hlocks hP hK ls hl
  refine lv_iload_n hx hb dX10_hasReign_0 rfl (lv_at hl 1 rfl) ?_
  refine lv_i2l (v := (iI z).toInt64) hx hb dX10_hasReign_1 rfl ?_
  refine cv_l (y := iL z) (i2l_iL ⟨by omega, by omega⟩) ?_
  refine lv_lconst (v := 0) hx hb dX10_hasReign_2 (by decide) ?_
  refine cv_l (y := iL 0) (by decide) ?_
  refine lv_aload_n hx hb dX10_hasReign_3 rfl (lv_at hl 0 rfl) ?_
  refine lv_iconst (v := iI 0) hx hb dX10_hasReign_4 (by decide) ?_
  refine zf_ald hx hb hK hP 0 (f := flR R) rfl (0) (rfl) (by omega) (by decide) (z := R 1 0) (fl_1) dX10_hasReign_5 ?_
  have hb_1 := hB 1 0
  refine lv_iconst (v := iI 1) hx hb dX10_hasReign_6 (by decide) ?_
  refine zi_sub hx hb dX10_hasReign_7 ?_
  refine lv_i2l (v := (iI ((R 1 0) - 1)).toInt64) hx hb dX10_hasReign_8 rfl ?_
  refine cv_l (y := iL ((R 1 0) - 1)) (i2l_iL ⟨by omega, by omega⟩) ?_
  refine ro_S (As := [Value.long (iL z), Value.long (iL 0), Value.long (iL ((R 1 0) - 1))]) (rest := []) (v := some (Value.int (iI (zB (decide (0 ≤ z ∧ z ≤ ((R 1 0) - 1))))))) ⟨hx, hb, hml, hown, hts⟩ (c_X10_in l g τ z 0 ((R 1 0) - 1) ⟨by omega, by omega⟩ ⟨by omega, by omega⟩ ⟨by omega, by omega⟩) gX10_hasReign_X10_in cd_X10_in rfl ⟨rfl, rfl⟩ ⟨Nat.le_of_ble_eq_true rfl, Nat.le_of_ble_eq_true rfl⟩ hK (fun _ _ h => by cases h) rfl hl rfl (Nat.le_of_ble_eq_true rfl) dX10_hasReign_9 ⟨Nat.le_of_ble_eq_true rfl, Nat.le_of_ble_eq_true rfl⟩ ?_
  refine tl_some ?_
  exact zo_zret hx hb hr hlocks (rfl) dX10_hasReign_12

theorem cd_X10_hasDie : cd yX10_hasDie 2 := by decide +kernel
set_option maxHeartbeats 1000000 in
set_option maxRecDepth 100000 in
theorem c_X10_hasDie (l : Launch) (g : va_G) (τ : Nat → ClassId) (fa : Nat) (R : Nat → Nat → Int) (hI : SI R) (z : Int) (rz : -2147483648 ≤ z ∧ z < 2147483648)  : Met l yX10_hasDie wsX10_hasDie { frames := 1, cells := 0, slots := 0, locals := 25 } (va_Pc [Value.ref fa, Value.int (iI z)] (roW g τ (flW fa R τ))) (roQ (some (Value.int (iI (zB (decide (0 ≤ z ∧ z ≤ R 4 0 - 1))))))) 0 0 nof := by
  have hB := hI.hB
  have hr0 := hI.r
  have hd0 := hI.d
  have hs0 := hI.s
  refine roMet (cc := cX10_hasDie) (maxL := 2) (ret := (some .boolean)) (lv := [(0, Value.ref fa), (1, Value.int (iI z))]) (by decide) rfl (Nat.le_of_ble_eq_true rfl) rfl ?_
  intro p e s m below meth c hx hb hr hml hts hown hlocks hP hK ls hl
  refine lv_iload_n hx hb dX10_hasDie_0 rfl (lv_at hl 1 rfl) ?_
  refine lv_i2l (v := (iI z).toInt64) hx hb dX10_hasDie_1 rfl ?_
  refine cv_l (y := iL z) (i2l_iL ⟨by omega, by omega⟩) ?_
  refine lv_lconst (v := 0) hx hb dX10_hasDie_2 (by decide) ?_
  refine cv_l (y := iL 0) (by decide) ?_
  refine lv_aload_n hx hb dX10_hasDie_3 rfl (lv_at hl 0 rfl) ?_
  refine lv_iconst (v := iI 1) hx hb dX10_hasDie_4 (by decide) ?_
  refine zf_ald hx hb hK hP 0 (f := flR R) rfl (1) (rfl) (by omega) (by decide) (z := R 4 0) (fl_4) dX10_hasDie_5 ?_
  have hb_1 := hB 4 0
  refine lv_iconst (v := iI 1) hx hb dX10_hasDie_6 (by decide) ?_
  refine zi_sub hx hb dX10_hasDie_7 ?_
  refine lv_i2l (v := (iI ((R 4 0) - 1)).toInt64) hx hb dX10_hasDie_8 rfl ?_
  refine cv_l (y := iL ((R 4 0) - 1)) (i2l_iL ⟨by omega, by omega⟩) ?_
  refine ro_S (As := [Value.long (iL z), Value.long (iL 0), Value.long (iL ((R 4 0) - 1))]) (rest := []) (v := some (Value.int (iI (zB (decide (0 ≤ z ∧ z ≤ ((R 4 0) - 1))))))) ⟨hx, hb, hml, hown, hts⟩ (c_X10_in l g τ z 0 ((R 4 0) - 1) ⟨by omega, by omega⟩ ⟨by omega, by omega⟩ ⟨by omega, by omega⟩) gX10_hasDie_X10_in cd_X10_in rfl ⟨rfl, rfl⟩ ⟨Nat.le_of_ble_eq_true rfl, Nat.le_of_ble_eq_true rfl⟩ hK (fun _ _ h => by cases h) rfl hl rfl (Nat.le_of_ble_eq_true rfl) dX10_hasDie_9 ⟨Nat.le_of_ble_eq_true rfl, Nat.le_of_ble_eq_true rfl⟩ ?_
  refine tl_some ?_
  exact zo_zret hx hb hr hlocks (rfl) dX10_hasDie_12

theorem cd_X10_hasSeal : cd yX10_hasSeal 2 := by decide +kernel
set_option maxHeartbeats 1000000 in
set_option maxRecDepth 100000 in
theorem c_X10_hasSeal (l : Launch) (g : va_G) (τ : Nat → ClassId) (fa : Nat) (R : Nat → Nat → Int) (hI : SI R) (z : Int) (rz : -2147483648 ≤ z ∧ z < 2147483648)  : Met l yX10_hasSeal wsX10_hasSeal { frames := 1, cells := 0, slots := 0, locals := 25 } (va_Pc [Value.ref fa, Value.int (iI z)] (roW g τ (flW fa R τ))) (roQ (some (Value.int (iI (zB (decide (0 ≤ z ∧ z ≤ R 10 0 - 1))))))) 0 0 nof := by
  have hB := hI.hB
  have hr0 := hI.r
  have hd0 := hI.d
  have hs0 := hI.s
  refine roMet (cc := cX10_hasSeal) (maxL := 2) (ret := (some .boolean)) (lv := [(0, Value.ref fa), (1, Value.int (iI z))]) (by decide) rfl (Nat.le_of_ble_eq_true rfl) rfl ?_
  intro p e s m below meth c hx hb hr hml hts hown hlocks hP hK ls hl
  refine lv_iload_n hx hb dX10_hasSeal_0 rfl (lv_at hl 1 rfl) ?_
  refine lv_i2l (v := (iI z).toInt64) hx hb dX10_hasSeal_1 rfl ?_
  refine cv_l (y := iL z) (i2l_iL ⟨by omega, by omega⟩) ?_
  refine lv_lconst (v := 0) hx hb dX10_hasSeal_2 (by decide) ?_
  refine cv_l (y := iL 0) (by decide) ?_
  refine lv_aload_n hx hb dX10_hasSeal_3 rfl (lv_at hl 0 rfl) ?_
  refine lv_iconst (v := iI 2) hx hb dX10_hasSeal_4 (by decide) ?_
  refine zf_ald hx hb hK hP 0 (f := flR R) rfl (2) (rfl) (by omega) (by decide) (z := R 10 0) (fl_10) dX10_hasSeal_5 ?_
  have hb_1 := hB 10 0
  refine lv_iconst (v := iI 1) hx hb dX10_hasSeal_6 (by decide) ?_
  refine zi_sub hx hb dX10_hasSeal_7 ?_
  refine lv_i2l (v := (iI ((R 10 0) - 1)).toInt64) hx hb dX10_hasSeal_8 rfl ?_
  refine cv_l (y := iL ((R 10 0) - 1)) (i2l_iL ⟨by omega, by omega⟩) ?_
  refine ro_S (As := [Value.long (iL z), Value.long (iL 0), Value.long (iL ((R 10 0) - 1))]) (rest := []) (v := some (Value.int (iI (zB (decide (0 ≤ z ∧ z ≤ ((R 10 0) - 1))))))) ⟨hx, hb, hml, hown, hts⟩ (c_X10_in l g τ z 0 ((R 10 0) - 1) ⟨by omega, by omega⟩ ⟨by omega, by omega⟩ ⟨by omega, by omega⟩) gX10_hasSeal_X10_in cd_X10_in rfl ⟨rfl, rfl⟩ ⟨Nat.le_of_ble_eq_true rfl, Nat.le_of_ble_eq_true rfl⟩ hK (fun _ _ h => by cases h) rfl hl rfl (Nat.le_of_ble_eq_true rfl) dX10_hasSeal_9 ⟨Nat.le_of_ble_eq_true rfl, Nat.le_of_ble_eq_true rfl⟩ ?_
  refine tl_some ?_
  exact zo_zret hx hb hr hlocks (rfl) dX10_hasSeal_12

theorem cd_X10_ends : cd yX10_ends 2 := by decide +kernel
set_option maxHeartbeats 1000000 in
set_option maxRecDepth 100000 in
theorem c_X10_ends (l : Launch) (g : va_G) (τ : Nat → ClassId) (fa : Nat) (R : Nat → Nat → Int) (hI : SI R) (i : Nat) (hi : (i : Int) < R 1 0)  : Met l yX10_ends wsX10_ends { frames := 0, cells := 0, slots := 0, locals := 0 } (va_Pc [Value.ref fa, Value.int (iI (i : Int))] (roW g τ (flW fa R τ))) (roQ (some (Value.int (iI (kLast R (R 1 0).toNat (i + 1)))))) 0 0 nof := by
  have hB := hI.hB
  have hr0 := hI.r
  have hd0 := hI.d
  have hs0 := hI.s
  have hz := hB 2 (i + 1)
  refine roMet (cc := cX10_ends) (maxL := 2) (ret := (some .int)) (lv := [(0, Value.ref fa), (1, Value.int (iI (i : Int)))]) (by decide) rfl (Nat.le_of_ble_eq_true rfl) rfl ?_
  intro p e s m below meth c hx hb hr hml hts hown hlocks hP hK ls hl
  refine lv_iload_n hx hb dX10_ends_0 rfl (lv_at hl 1 rfl) ?_
  refine lv_iconst (v := iI 1) hx hb dX10_ends_1 (by decide) ?_
  refine zi_add hx hb dX10_ends_2 ?_
  refine lv_aload_n hx hb dX10_ends_3 rfl (lv_at hl 0 rfl) ?_
  refine lv_iconst (v := iI 0) hx hb dX10_ends_4 (by decide) ?_
  refine zf_ald hx hb hK hP 0 (f := flR R) rfl (0) (rfl) (by omega) (by decide) (z := R 1 0) (fl_1) dX10_ends_5 ?_
  have hb_1 := hB 1 0
  refine zi_icmp_ge (tgt := 21) hx hb ⟨by omega, by omega⟩ ⟨by omega, by omega⟩ dX10_ends_6 (by decide) (fun c_2 => ?_) (fun c_2 => ?_)
  · have _ := c_2
    refine lv_sipush (v := iI 1999) hx hb dX10_ends_21 (by decide) ?_
    exact zo_iret hx hb hr hlocks (by first | (rw [kLast, if_neg (by omega)]) | (rw [kLast, if_pos (by omega)])) dX10_ends_24
  · have _ := c_2
    refine lv_aload_n hx hb dX10_ends_9 rfl (lv_at hl 0 rfl) ?_
    refine lv_iconst (v := iI 5) hx hb dX10_ends_10 (by decide) ?_
    refine lv_iload_n hx hb dX10_ends_11 rfl (lv_at hl 1 rfl) ?_
    refine zi_add hx hb dX10_ends_12 ?_
    refine lv_iconst (v := iI 1) hx hb dX10_ends_13 (by decide) ?_
    refine zi_add hx hb dX10_ends_14 ?_
    refine zf_ald hx hb hK hP 0 (f := flR R) rfl ((5 + i) + 1) (by omega) (by omega) (by decide) (z := R 2 (i + 1)) (fl_2 (i := i + 1) (by omega) (by omega)) dX10_ends_15 ?_
    have hb_3 := hB 2 (i + 1)
    refine lv_iconst (v := iI 1) hx hb dX10_ends_16 (by decide) ?_
    refine zi_sub hx hb dX10_ends_17 ?_
    refine lv_goto (tgt := 24) hx hb dX10_ends_18 (by decide) ?_
    exact zo_iret hx hb hr hlocks (by first | (rw [kLast, if_neg (by omega)]) | (rw [kLast, if_pos (by omega)])) dX10_ends_24

theorem cd_X10_isCast : cd yX10_isCast 2 := by decide +kernel
set_option maxHeartbeats 1000000 in
set_option maxRecDepth 100000 in
theorem c_X10_isCast (l : Launch) (g : va_G) (τ : Nat → ClassId) (fa : Nat) (R : Nat → Nat → Int) (hI : SI R) (s1 : Nat) (hs : (s1 : Int) < R 10 0)  : Met l yX10_isCast wsX10_isCast { frames := 0, cells := 0, slots := 0, locals := 0 } (va_Pc [Value.ref fa, Value.int (iI (s1 : Int))] (roW g τ (flW fa R τ))) (roQ (some (Value.int (iI (zB (decide (R 20 (R 12 s1).toNat < R 14 s1))))))) 0 0 nof := by
  have hB := hI.hB
  have hr0 := hI.r
  have hd0 := hI.d
  have hs0 := hI.s
  have hsl := hI.sl s1 hs
  have hdl := hI.ds (R 11 s1).toNat (by omega)
  refine roMet (cc := cX10_isCast) (maxL := 2) (ret := (some .boolean)) (lv := [(0, Value.ref fa), (1, Value.int (iI (s1 : Int)))]) (by decide) rfl (Nat.le_of_ble_eq_true rfl) rfl ?_
  intro p e s m below meth c hx hb hr hml hts hown hlocks hP hK ls hl
  refine lv_aload_n hx hb dX10_isCast_0 rfl (lv_at hl 0 rfl) ?_
  refine lv_sipush (v := iI 177) hx hb dX10_isCast_1 (by decide) ?_
  refine lv_iload_n hx hb dX10_isCast_4 rfl (lv_at hl 1 rfl) ?_
  refine zi_add hx hb dX10_isCast_5 ?_
  refine zf_ald hx hb hK hP 0 (f := flR R) rfl (177 + s1) (by omega) (by omega) (by decide) (z := R 14 s1) (fl_14 (i := s1) (by omega) (by omega)) dX10_isCast_6 ?_
  have hb_1 := hB 14 s1
  refine lv_aload_n hx hb dX10_isCast_7 rfl (lv_at hl 0 rfl) ?_
  refine lv_iconst (v := iI 3) hx hb dX10_isCast_8 (by decide) ?_
  refine lv_aload_n hx hb dX10_isCast_9 rfl (lv_at hl 0 rfl) ?_
  refine lv_sipush (v := iI 129) hx hb dX10_isCast_10 (by decide) ?_
  refine lv_iload_n hx hb dX10_isCast_13 rfl (lv_at hl 1 rfl) ?_
  refine zi_add hx hb dX10_isCast_14 ?_
  refine zf_ald hx hb hK hP 0 (f := flR R) rfl (129 + s1) (by omega) (by omega) (by decide) (z := R 12 s1) (fl_12 (i := s1) (by omega) (by omega)) dX10_isCast_15 ?_
  have hb_2 := hB 12 s1
  refine cv_i (y := iI (((R 12 s1).toNat : Nat) : Int)) (congrArg iI (by omega)) ?_
  refine zi_add hx hb dX10_isCast_16 ?_
  refine zf_ald hx hb hK hP 0 (f := flR R) rfl (3 + ((R 12 s1).toNat)) (by omega) (by omega) (by decide) (z := R 20 ((R 12 s1).toNat)) (fl_20 (i := (R 12 s1).toNat) (by omega) (by omega)) dX10_isCast_17 ?_
  have hb_3 := hB 20 ((R 12 s1).toNat)
  refine zi_icmp_le (tgt := 25) hx hb ⟨by omega, by omega⟩ ⟨by omega, by omega⟩ dX10_isCast_18 (by decide) (fun c_4 => ?_) (fun c_4 => ?_)
  · have _ := c_4
    refine lv_iconst (v := iI 0) hx hb dX10_isCast_25 (by decide) ?_
    exact zo_zret hx hb hr hlocks (by first | (rw [decide_eq_true (by omega)]; rfl) | (rw [decide_eq_false (by omega)]; rfl)) dX10_isCast_26
  · have _ := c_4
    refine lv_iconst (v := iI 1) hx hb dX10_isCast_21 (by decide) ?_
    refine lv_goto (tgt := 26) hx hb dX10_isCast_22 (by decide) ?_
    exact zo_zret hx hb hr hlocks (by first | (rw [decide_eq_true (by omega)]; rfl) | (rw [decide_eq_false (by omega)]; rfl)) dX10_isCast_26
