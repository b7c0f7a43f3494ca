/-! numbers of the machine as Int: iI z; what the instructions do with them -/
def iI (z : Int) : Int32 := Int32.ofInt z
def rng (z : Int) : Prop := -2147483648 ≤ z ∧ z < 2147483648
theorem z_bmod {z : Int} (h1 : -2147483648 ≤ z) (h2 : z < 2147483648) : z.bmod (2 ^ 32) = z := by
  rw [Int.bmod_eq_of_le (by omega) (by omega)]
theorem iI_to {z : Int} (h : rng z) : (iI z).toInt = z := by
  unfold iI
  rw [Int32.toInt_ofInt]
  exact z_bmod h.1 h.2
theorem iI_as (x : Int32) : iI x.toInt = x := Int32.ofInt_toInt x
theorem rng_to (x : Int32) : rng x.toInt := by
  have h1 := Int32.le_toInt x
  have h2 := Int32.toInt_lt x
  unfold rng
  omega
theorem iI_bmod {x : Int32} {z : Int} (h : x.toInt = z.bmod (2 ^ 32)) : x = iI z := Int32.toInt_inj.mp (by unfold iI; rw [Int32.toInt_ofInt]; exact h)
theorem iI_add (a b : Int) : iI a + iI b = iI (a + b) := iI_bmod (by
  unfold iI
  rw [Int32.toInt_add, Int32.toInt_ofInt, Int32.toInt_ofInt]
  simp)
theorem iI_sub (a b : Int) : iI a - iI b = iI (a - b) := iI_bmod (by
  unfold iI
  rw [Int32.toInt_sub, Int32.toInt_ofInt, Int32.toInt_ofInt]
  simp)
theorem iI_mul (a b : Int) : iI a * iI b = iI (a * b) := iI_bmod (by
  unfold iI
  rw [Int32.toInt_mul, Int32.toInt_ofInt, Int32.toInt_ofInt]
  simp)
theorem iI_nat (n : Nat) : iI (n : Int) = nI n := (iI_bmod (x := nI n) (by
  unfold nI
  rw [Int32.toInt_ofNat'])).symm
theorem iI_inj {a b : Int} (ha : rng a) (hb : rng b) : iI a = iI b ↔ a = b := ⟨fun h => by rw [← iI_to ha, ← iI_to hb, h], fun h => by rw [h]⟩
theorem iI_lt {a b : Int} (ha : rng a) (hb : rng b) : iI a < iI b ↔ a < b := by rw [Int32.lt_iff_toInt_lt, iI_to ha, iI_to hb]
theorem iI_le {a b : Int} (ha : rng a) (hb : rng b) : iI a ≤ iI b ↔ a ≤ b := by rw [Int32.le_iff_toInt_le, iI_to ha, iI_to hb]
theorem iI_div {a b : Int} (ha : 0 ≤ a) (ha2 : a < 2147483648) (hb : 0 < b) (hb2 : b < 2147483648) : iI a / iI b = iI (a / b) := by
  obtain ⟨x, rfl⟩ := Int.eq_ofNat_of_zero_le ha
  obtain ⟨y, rfl⟩ := Int.eq_ofNat_of_zero_le (Int.le_of_lt hb)
  rw [iI_nat, iI_nat, pk_div (by omega) (by omega) (by omega), ← iI_nat, Int.natCast_ediv]
theorem iI_rem {a b : Int} (ha : 0 ≤ a) (ha2 : a < 2147483648) (hb : 0 < b) (hb2 : b < 2147483648) : iI a - iI a / iI b * iI b = iI (a % b) := by
  rw [iI_div ha ha2 hb hb2, iI_mul, iI_sub]
  congr 1
  have := Int.mul_ediv_add_emod a b
  rw [Int.mul_comm (a / b) b]
  omega
def zB (b : Bool) : Int := if b then 1 else 0
theorem zB_0 {b : Bool} : zB b = 0 ↔ b = false := by cases b <;> simp [zB]
theorem zB_n {b : Bool} : ¬ zB b = 0 ↔ b = true := by cases b <;> simp [zB]
theorem rng_zB (b : Bool) : rng (zB b) := by cases b <;> (unfold zB rng; simp)
/-- bit k of a set -/
def zbit (S : Int) (k : Nat) : Bool := S.toNat.testBit k
theorem iI_bit {S : Int} {k : Nat} (h0 : 0 ≤ S) (h1 : S < 2147483648) (hk : k < 31) : iI S >>> (iI (k : Int) &&& 31) &&& iI 1 = iI (zB (zbit S k)) := by
  obtain ⟨x, rfl⟩ := Int.eq_ofNat_of_zero_le h0
  have e1 : (iI (k : Int) &&& 31) = iI (k : Int) := by
    rw [iI_nat]
    have : ∀ k, k < 31 → nI k &&& 31 = nI k := by decide +kernel
    exact this k hk
  rw [e1, iI_nat, iI_nat]
  have hs : ((nI k).toBitVec.smod 32).toNat = k := by
    have : ∀ k, k < 31 → ((nI k).toBitVec.smod 32).toNat = k := by decide +kernel
    exact this k hk
  rw [pk_shrN (by omega) (nI k) k hs, show iI 1 = nI 1 from rfl]
  have h2 : nI (x / 2 ^ k) &&& nI 1 = nI (x / 2 ^ k % 2 ^ 1) := pk_andN (Nat.lt_of_le_of_lt (Nat.div_le_self _ _) (by omega)) 1 rfl
  rw [h2]
  unfold zbit zB
  rw [show ((x : Int)).toNat = x from rfl, Nat.testBit_eq_decide_div_mod_eq]
  rcases Nat.mod_two_eq_zero_or_one (x / 2 ^ k) with q | q <;> rw [Nat.pow_one, q] <;> rfl
theorem iI_shl1 {k : Nat} (hk : k < 31) : iI 1 <<< (iI (k : Int) &&& 31) = iI ((2 : Int) ^ k) := by
  rw [iI_nat, show iI 1 = nI 1 from rfl, show ((2 : Int) ^ k) = ((2 ^ k : Nat) : Int) by push_cast; rfl, iI_nat]
  have : ∀ k, k < 31 → nI 1 <<< (nI k &&& 31) = nI (2 ^ k) := by decide +kernel
  exact this k hk
theorem nI_land (a b : Nat) : nI a &&& nI b = nI (a &&& b) := by
  apply Int32.toBitVec_inj.mp
  show BitVec.ofNat 32 a &&& BitVec.ofNat 32 b = BitVec.ofNat 32 (a &&& b)
  exact BitVec.ofNat_and.symm
theorem nI_lor (a b : Nat) : nI a ||| nI b = nI (a ||| b) := by
  apply Int32.toBitVec_inj.mp
  show BitVec.ofNat 32 a ||| BitVec.ofNat 32 b = BitVec.ofNat 32 (a ||| b)
  exact BitVec.ofNat_or.symm
def zand (a b : Int) : Int := ((a.toNat &&& b.toNat : Nat) : Int)
def zor (a b : Int) : Int := ((a.toNat ||| b.toNat : Nat) : Int)
theorem iI_and {a b : Int} (ha : 0 ≤ a) (hb : 0 ≤ b) : iI a &&& iI b = iI (zand a b) := by
  obtain ⟨x, rfl⟩ := Int.eq_ofNat_of_zero_le ha
  obtain ⟨y, rfl⟩ := Int.eq_ofNat_of_zero_le hb
  rw [iI_nat, iI_nat, nI_land, ← iI_nat]; rfl
theorem iI_or {a b : Int} (ha : 0 ≤ a) (hb : 0 ≤ b) : iI a ||| iI b = iI (zor a b) := by
  obtain ⟨x, rfl⟩ := Int.eq_ofNat_of_zero_le ha
  obtain ⟨y, rfl⟩ := Int.eq_ofNat_of_zero_le hb
  rw [iI_nat, iI_nat, nI_lor, ← iI_nat]; rfl
def updZ (f : Nat → Int) (k : Nat) (z : Int) : Nat → Int := fun j => if j = k then z else f j
theorem updZ_iI (f : Nat → Int) (k : Nat) (z : Int) : upd (fun j => iI (f j)) k (iI z) = fun j => iI (updZ f k z j) := by
  funext j
  unfold updZ
  by_cases h : j = k
  · rw [if_pos h, h]; exact pk_us
  · rw [if_neg h]; exact pk_un h
section ZK
variable {p : Program} {l : Launch} {e : Env} {R : Room} {s : State} {m : MethodId} {args : Array Value} {below : List Frame} {meth : Method} {c : Code} {H H0 : Heap} {locs : List Loc} {cells slots : Nat} {Q : State → Prop}
variable {cc : ByteArray} {nL pc index : Nat} {rest : List Value} {ls : Array Slot} {g : va_G} {τ : Nat → ClassId} {ws wo : va_W} {A A0 : Nat → Prop} {a b : Int} {off : Int} {tgt : Nat} {own : String}
theorem zi_add (hx : p.tables.exec = Jvm.exec) (hb : c.code = cc) (d : decode cc pc = .ok (.iadd, 1)) (k : W p l e R s m args below meth c H locs cells slots Q (F0 m (pc + 1) ls (.int (iI (a + b)) :: rest))) : W p l e R s m args below meth c H locs cells slots Q (F0 m pc ls (.int (iI b) :: .int (iI a) :: rest)) := lv_iadd hx hb d (by rw [iI_add]; exact k)
theorem zi_sub (hx : p.tables.exec = Jvm.exec) (hb : c.code = cc) (d : decode cc pc = .ok (.isub, 1)) (k : W p l e R s m args below meth c H locs cells slots Q (F0 m (pc + 1) ls (.int (iI (a - b)) :: rest))) : W p l e R s m args below meth c H locs cells slots Q (F0 m pc ls (.int (iI b) :: .int (iI a) :: rest)) := lv_isub hx hb d (by rw [iI_sub]; exact k)
theorem zi_mul (hx : p.tables.exec = Jvm.exec) (hb : c.code = cc) (d : decode cc pc = .ok (.imul, 1)) (k : W p l e R s m args below meth c H locs cells slots Q (F0 m (pc + 1) ls (.int (iI (a * b)) :: rest))) : W p l e R s m args below meth c H locs cells slots Q (F0 m pc ls (.int (iI b) :: .int (iI a) :: rest)) := lv_imul hx hb d (by rw [iI_mul]; exact k)
theorem zi_div (hx : p.tables.exec = Jvm.exec) (hb : c.code = cc) (ha : 0 ≤ a ∧ a < 2147483648) (hd : 0 < b ∧ b < 2147483648) (d : decode cc pc = .ok (.idiv, 1)) (k : W p l e R s m args below meth c H locs cells slots Q (F0 m (pc + 1) ls (.int (iI (a / b)) :: rest))) : W p l e R s m args below meth c H locs cells slots Q (F0 m pc ls (.int (iI b) :: .int (iI a) :: rest)) := lv_idiv hx hb d (fun h => by
  have := (iI_inj (a := b) (b := 0) ⟨by omega, hd.2⟩ ⟨by decide, by decide⟩).mp h
  omega) (by rw [iI_div ha.1 ha.2 hd.1 hd.2]; exact k)
theorem zi_rem (hx : p.tables.exec = Jvm.exec) (hb : c.code = cc) (ha : 0 ≤ a ∧ a < 2147483648) (hd : 0 < b ∧ b < 2147483648) (d : decode cc pc = .ok (.irem, 1)) (k : W p l e R s m args below meth c H locs cells slots Q (F0 m (pc + 1) ls (.int (iI (a % b)) :: rest))) : W p l e R s m args below meth c H locs cells slots Q (F0 m pc ls (.int (iI b) :: .int (iI a) :: rest)) := lv_irem hx hb d (fun h => by
  have := (iI_inj (a := b) (b := 0) ⟨by omega, hd.2⟩ ⟨by decide, by decide⟩).mp h
  omega) (by rw [iI_rem ha.1 ha.2 hd.1 hd.2]; exact k)
theorem zi_and (hx : p.tables.exec = Jvm.exec) (hb : c.code = cc) (h : 0 ≤ a ∧ 0 ≤ b) (d : decode cc pc = .ok (.iand, 1)) (k : W p l e R s m args below meth c H locs cells slots Q (F0 m (pc + 1) ls (.int (iI (zand a b)) :: rest))) : W p l e R s m args below meth c H locs cells slots Q (F0 m pc ls (.int (iI b) :: .int (iI a) :: rest)) := lv_iand hx hb d (by rw [iI_and h.1 h.2]; exact k)
theorem zi_or (hx : p.tables.exec = Jvm.exec) (hb : c.code = cc) (h : 0 ≤ a ∧ 0 ≤ b) (d : decode cc pc = .ok (.ior, 1)) (k : W p l e R s m args below meth c H locs cells slots Q (F0 m (pc + 1) ls (.int (iI (zor a b)) :: rest))) : W p l e R s m args below meth c H locs cells slots Q (F0 m pc ls (.int (iI b) :: .int (iI a) :: rest)) := lv_ior hx hb d (by rw [iI_or h.1 h.2]; exact k)
theorem zi_shl1 {i : Int} (n : Nat) (hn : i = (n : Int)) (h31 : n < 31) (hx : p.tables.exec = Jvm.exec) (hb : c.code = cc) (d : decode cc pc = .ok (.ishl, 1)) (k : W p l e R s m args below meth c H locs cells slots Q (F0 m (pc + 1) ls (.int (iI ((2 : Int) ^ n)) :: rest))) : W p l e R s m args below meth c H locs cells slots Q (F0 m pc ls (.int (iI i) :: .int (iI 1) :: rest)) := by
  subst hn
  exact lv_ishl hx hb d (by rw [iI_shl1 h31]; exact k)
/-- shift and mask with 1 -/
theorem zi_bit {S i : Int} (n : Nat) (hn : i = (n : Int)) (h31 : n < 31) (h0 : 0 ≤ S ∧ S < 2147483648) (hx : p.tables.exec = Jvm.exec) (hb : c.code = cc) (d : decode cc pc = .ok (.ishr, 1)) (d1 : decode cc (pc + 1) = .ok (.iconst 1, 1)) (d2 : decode cc (pc + 2) = .ok (.iand, 1)) (k : W p l e R s m args below meth c H locs cells slots Q (F0 m (pc + 3) ls (.int (iI (zB (zbit S n))) :: rest))) : W p l e R s m args below meth c H locs cells slots Q (F0 m pc ls (.int (iI i) :: .int (iI S) :: rest)) := by
  subst hn
  exact lv_ishr hx hb d (lv_iconst (v := iI 1) hx hb d1 (by decide) (lv_iand hx hb d2 (by rw [iI_bit h0.1 h0.2 h31]; exact k)))
theorem zi_inc {i k : Nat} {n : Int} {x v : Int} {lv lv' : List (Nat × Value)} (hx : p.tables.exec = Jvm.exec) (hb : c.code = cc) (d : decode cc pc = .ok (.iinc i n, 3)) (h : lv_has ls nL lv) (hk : lv[k]? = some (i, .int (iI x))) (hv : x + n = v) (hn : i < nL) (hl : (i, Value.int (iI v)) :: lv.filter (fun q => !(q.1 == i) && !(q.1 + 1 == i && q.2.category == 2)) = lv')
    (kk : ∀ ls' : Array Slot, lv_has ls' nL lv' → W p l e R s m args below meth c H locs cells slots Q (F0 m (pc + 3) ls' rest)) : W p l e R s m args below meth c H locs cells slots Q (F0 m pc ls rest) :=
  lv_iinc hx hb d h hk (by rw [← hv]; exact iI_add x n) hn hl kk
section IF
variable (hx : p.tables.exec = Jvm.exec) (hb : c.code = cc) (ha : rng a) (h2 : rng b)
theorem zi_icmp_lt (hx : p.tables.exec = Jvm.exec) (hb : c.code = cc) (ha : rng a) (h2 : rng b) (d : decode cc pc = .ok (.if_icmp .lt off, 3)) (ht : (pc : Int) + off = (tgt : Int)) (kt : a < b → W p l e R s m args below meth c H locs cells slots Q (F0 m tgt ls rest)) (kf : b ≤ a → W p l e R s m args below meth c H locs cells slots Q (F0 m (pc + 3) ls rest)) : W p l e R s m args below meth c H locs cells slots Q (F0 m pc ls (.int (iI b) :: .int (iI a) :: rest)) :=
  lv_icmp_lt hx hb d ht (fun h => kt ((iI_lt ha h2).mp h)) (fun h => kf (Int.not_lt.mp fun q => h ((iI_lt ha h2).mpr q)))
theorem zi_icmp_ge (hx : p.tables.exec = Jvm.exec) (hb : c.code = cc) (ha : rng a) (h2 : rng b) (d : decode cc pc = .ok (.if_icmp .ge off, 3)) (ht : (pc : Int) + off = (tgt : Int)) (kt : b ≤ a → W p l e R s m args below meth c H locs cells slots Q (F0 m tgt ls rest)) (kf : a < b → W p l e R s m args below meth c H locs cells slots Q (F0 m (pc + 3) ls rest)) : W p l e R s m args below meth c H locs cells slots Q (F0 m pc ls (.int (iI b) :: .int (iI a) :: rest)) :=
  lv_icmp_ge hx hb d ht (fun h => kt ((iI_le h2 ha).mp h)) (fun h => kf (Int.not_le.mp fun q => h ((iI_le h2 ha).mpr q)))
theorem zi_icmp_gt (hx : p.tables.exec = Jvm.exec) (hb : c.code = cc) (ha : rng a) (h2 : rng b) (d : decode cc pc = .ok (.if_icmp .gt off, 3)) (ht : (pc : Int) + off = (tgt : Int)) (kt : b < a → W p l e R s m args below meth c H locs cells slots Q (F0 m tgt ls rest)) (kf : a ≤ b → W p l e R s m args below meth c H locs cells slots Q (F0 m (pc + 3) ls rest)) : W p l e R s m args below meth c H locs cells slots Q (F0 m pc ls (.int (iI b) :: .int (iI a) :: rest)) :=
  lv_icmp_gt hx hb d ht (fun h => kt ((iI_lt h2 ha).mp h)) (fun h => kf (Int.not_lt.mp fun q => h ((iI_lt h2 ha).mpr q)))
theorem zi_icmp_le (hx : p.tables.exec = Jvm.exec) (hb : c.code = cc) (ha : rng a) (h2 : rng b) (d : decode cc pc = .ok (.if_icmp .le off, 3)) (ht : (pc : Int) + off = (tgt : Int)) (kt : a ≤ b → W p l e R s m args below meth c H locs cells slots Q (F0 m tgt ls rest)) (kf : b < a → W p l e R s m args below meth c H locs cells slots Q (F0 m (pc + 3) ls rest)) : W p l e R s m args below meth c H locs cells slots Q (F0 m pc ls (.int (iI b) :: .int (iI a) :: rest)) :=
  lv_icmp_le hx hb d ht (fun h => kt ((iI_le ha h2).mp h)) (fun h => kf (Int.not_le.mp fun q => h ((iI_le ha h2).mpr q)))
theorem zi_icmp_eq (hx : p.tables.exec = Jvm.exec) (hb : c.code = cc) (ha : rng a) (h2 : rng b) (d : decode cc pc = .ok (.if_icmp .eq off, 3)) (ht : (pc : Int) + off = (tgt : Int)) (kt : a = b → W p l e R s m args below meth c H locs cells slots Q (F0 m tgt ls rest)) (kf : ¬ a = b → W p l e R s m args below meth c H locs cells slots Q (F0 m (pc + 3) ls rest)) : W p l e R s m args below meth c H locs cells slots Q (F0 m pc ls (.int (iI b) :: .int (iI a) :: rest)) :=
  lv_icmp_eq hx hb d ht (fun h => kt ((iI_inj ha h2).mp h)) (fun h => kf fun q => h ((iI_inj ha h2).mpr q))
theorem zi_icmp_ne (hx : p.tables.exec = Jvm.exec) (hb : c.code = cc) (ha : rng a) (h2 : rng b) (d : decode cc pc = .ok (.if_icmp .ne off, 3)) (ht : (pc : Int) + off = (tgt : Int)) (kt : ¬ a = b → W p l e R s m args below meth c H locs cells slots Q (F0 m tgt ls rest)) (kf : a = b → W p l e R s m args below meth c H locs cells slots Q (F0 m (pc + 3) ls rest)) : W p l e R s m args below meth c H locs cells slots Q (F0 m pc ls (.int (iI b) :: .int (iI a) :: rest)) :=
  lv_icmp_ne hx hb d ht (fun h => kt fun q => h ((iI_inj ha h2).mpr q)) (fun h => kf ((iI_inj ha h2).mp h))
theorem zi_if_lt (hx : p.tables.exec = Jvm.exec) (hb : c.code = cc) (ha : rng a) (d : decode cc pc = .ok (.ifCond .lt off, 3)) (ht : (pc : Int) + off = (tgt : Int)) (kt : a < 0 → W p l e R s m args below meth c H locs cells slots Q (F0 m tgt ls rest)) (kf : 0 ≤ a → W p l e R s m args below meth c H locs cells slots Q (F0 m (pc + 3) ls rest)) : W p l e R s m args below meth c H locs cells slots Q (F0 m pc ls (.int (iI a) :: rest)) :=
  lv_if_lt hx hb d ht (fun h => kt ((iI_lt ha (b := 0) ⟨by decide, by decide⟩).mp h)) (fun h => kf (Int.not_lt.mp fun q => h ((iI_lt ha (b := 0) ⟨by decide, by decide⟩).mpr q)))
theorem zi_if_ge (hx : p.tables.exec = Jvm.exec) (hb : c.code = cc) (ha : rng a) (d : decode cc pc = .ok (.ifCond .ge off, 3)) (ht : (pc : Int) + off = (tgt : Int)) (kt : 0 ≤ a → W p l e R s m args below meth c H locs cells slots Q (F0 m tgt ls rest)) (kf : a < 0 → W p l e R s m args below meth c H locs cells slots Q (F0 m (pc + 3) ls rest)) : W p l e R s m args below meth c H locs cells slots Q (F0 m pc ls (.int (iI a) :: rest)) :=
  lv_if_ge hx hb d ht (fun h => kt ((iI_le (a := 0) ⟨by decide, by decide⟩ ha).mp h)) (fun h => kf (Int.not_le.mp fun q => h ((iI_le (a := 0) ⟨by decide, by decide⟩ ha).mpr q)))
theorem zi_if_gt (hx : p.tables.exec = Jvm.exec) (hb : c.code = cc) (ha : rng a) (d : decode cc pc = .ok (.ifCond .gt off, 3)) (ht : (pc : Int) + off = (tgt : Int)) (kt : 0 < a → W p l e R s m args below meth c H locs cells slots Q (F0 m tgt ls rest)) (kf : a ≤ 0 → W p l e R s m args below meth c H locs cells slots Q (F0 m (pc + 3) ls rest)) : W p l e R s m args below meth c H locs cells slots Q (F0 m pc ls (.int (iI a) :: rest)) :=
  lv_if_gt hx hb d ht (fun h => kt ((iI_lt (a := 0) ⟨by decide, by decide⟩ ha).mp h)) (fun h => kf (Int.not_lt.mp fun q => h ((iI_lt (a := 0) ⟨by decide, by decide⟩ ha).mpr q)))
theorem zi_if_le (hx : p.tables.exec = Jvm.exec) (hb : c.code = cc) (ha : rng a) (d : decode cc pc = .ok (.ifCond .le off, 3)) (ht : (pc : Int) + off = (tgt : Int)) (kt : a ≤ 0 → W p l e R s m args below meth c H locs cells slots Q (F0 m tgt ls rest)) (kf : 0 < a → W p l e R s m args below meth c H locs cells slots Q (F0 m (pc + 3) ls rest)) : W p l e R s m args below meth c H locs cells slots Q (F0 m pc ls (.int (iI a) :: rest)) :=
  lv_if_le hx hb d ht (fun h => kt ((iI_le ha (b := 0) ⟨by decide, by decide⟩).mp h)) (fun h => kf (Int.not_le.mp fun q => h ((iI_le ha (b := 0) ⟨by decide, by decide⟩).mpr q)))
theorem zi_if_eq (hx : p.tables.exec = Jvm.exec) (hb : c.code = cc) (ha : rng a) (d : decode cc pc = .ok (.ifCond .eq off, 3)) (ht : (pc : Int) + off = (tgt : Int)) (kt : a = 0 → W p l e R s m args below meth c H locs cells slots Q (F0 m tgt ls rest)) (kf : ¬ a = 0 → W p l e R s m args below meth c H locs cells slots Q (F0 m (pc + 3) ls rest)) : W p l e R s m args below meth c H locs cells slots Q (F0 m pc ls (.int (iI a) :: rest)) :=
  lv_if_eq hx hb d ht (fun h => kt ((iI_inj ha (b := 0) ⟨by decide, by decide⟩).mp h)) (fun h => kf fun q => h ((iI_inj ha (b := 0) ⟨by decide, by decide⟩).mpr q))
theorem zi_if_ne (hx : p.tables.exec = Jvm.exec) (hb : c.code = cc) (ha : rng a) (d : decode cc pc = .ok (.ifCond .ne off, 3)) (ht : (pc : Int) + off = (tgt : Int)) (kt : ¬ a = 0 → W p l e R s m args below meth c H locs cells slots Q (F0 m tgt ls rest)) (kf : a = 0 → W p l e R s m args below meth c H locs cells slots Q (F0 m (pc + 3) ls rest)) : W p l e R s m args below meth c H locs cells slots Q (F0 m pc ls (.int (iI a) :: rest)) :=
  lv_if_ne hx hb d ht (fun h => kt fun q => h ((iI_inj ha (b := 0) ⟨by decide, by decide⟩).mpr q)) (fun h => kf ((iI_inj ha (b := 0) ⟨by decide, by decide⟩).mp h))
theorem zb_if_eq {B : Bool} (hx : p.tables.exec = Jvm.exec) (hb : c.code = cc) (d : decode cc pc = .ok (.ifCond .eq off, 3)) (ht : (pc : Int) + off = (tgt : Int)) (kt : B = false → W p l e R s m args below meth c H locs cells slots Q (F0 m tgt ls rest)) (kf : B = true → W p l e R s m args below meth c H locs cells slots Q (F0 m (pc + 3) ls rest)) : W p l e R s m args below meth c H locs cells slots Q (F0 m pc ls (.int (iI (zB B)) :: rest)) :=
  zi_if_eq hx hb (rng_zB B) d ht (fun h => kt (zB_0.mp h)) (fun h => kf (zB_n.mp h))
theorem zb_if_ne {B : Bool} (hx : p.tables.exec = Jvm.exec) (hb : c.code = cc) (d : decode cc pc = .ok (.ifCond .ne off, 3)) (ht : (pc : Int) + off = (tgt : Int)) (kt : B = true → W p l e R s m args below meth c H locs cells slots Q (F0 m tgt ls rest)) (kf : B = false → W p l e R s m args below meth c H locs cells slots Q (F0 m (pc + 3) ls rest)) : W p l e R s m args below meth c H locs cells slots Q (F0 m pc ls (.int (iI (zB B)) :: rest)) :=
  zi_if_ne hx hb (rng_zB B) d ht (fun h => kt (zB_n.mp h)) (fun h => kf (zB_0.mp h))
end IF
theorem zi_ald (hx : p.tables.exec = Jvm.exec) (hb : c.code = cc) (hK : KK g τ s) (hP : va_P g vwCl ws H) (q0 : Nat) {aa N : Nat} {f : Nat → Int} (ha : ws[q0]? = some (aa, .inl (τ 0, N, .inl (fun j => iI (f j))))) {i : Int} (k : Nat) (hi : i = (k : Int)) (hk : k < N) (hN : N < 2 ^ 31) (d : decode cc pc = .ok (.iaload, 1))
    (kk : W p l e R s m args below meth c H locs cells slots Q (F0 m (pc + 1) ls (.int (iI (f k)) :: rest))) : W p l e R s m args below meth c H locs cells slots Q (F0 m pc ls (.int (iI i) :: .ref aa :: rest)) :=
  gi_ald hx hb hK hP q0 ha k (by rw [hi, iI_nat]) hk hN d kk
theorem zz_ald (hx : p.tables.exec = Jvm.exec) (hb : c.code = cc) (hK : KK g τ s) (hP : va_P g vwCl ws H) (q0 : Nat) {aa N : Nat} {f : Nat → Int} (ha : ws[q0]? = some (aa, .inl (τ 1, N, .inl (fun j => iI (f j))))) {i : Int} (k : Nat) (hi : i = (k : Int)) (hk : k < N) (hN : N < 2 ^ 31) (d : decode cc pc = .ok (.baload, 1))
    (kk : W p l e R s m args below meth c H locs cells slots Q (F0 m (pc + 1) ls (.int (iI (f k)) :: rest))) : W p l e R s m args below meth c H locs cells slots Q (F0 m pc ls (.int (iI i) :: .ref aa :: rest)) :=
  gz_ald hx hb hK hP q0 ha k (by rw [hi, iI_nat]) hk hN d kk
theorem zc_ald (hx : p.tables.exec = Jvm.exec) (hb : c.code = cc) (hK : KK g τ s) (hP : va_P g vwCl ws H) (q0 : Nat) {aa N : Nat} {f : Nat → Int} (ha : ws[q0]? = some (aa, .inl (τ 2, N, .inl (fun j => iI (f j))))) {i : Int} (k : Nat) (hi : i = (k : Int)) (hk : k < N) (hN : N < 2 ^ 31) (d : decode cc pc = .ok (.caload, 1))
    (kk : W p l e R s m args below meth c H locs cells slots Q (F0 m (pc + 1) ls (.int (iI (f k)) :: rest))) : W p l e R s m args below meth c H locs cells slots Q (F0 m pc ls (.int (iI i) :: .ref aa :: rest)) :=
  gc_ald hx hb hK hP q0 ha k (by rw [hi, iI_nat]) hk hN d kk
theorem zq_ald (hx : p.tables.exec = Jvm.exec) (hb : c.code = cc) (hK : KK g τ s) (hP : va_P g vwCl ws H) (q0 t0 : Nat) {cA : ClassId} {C : String} {aa N : Nat} {f : Nat → Option Nat} (ha : ws[q0]? = some (aa, .inl (cA, N, .inr (.inr (.inr (.inr f)))))) (ht : (tyL τ)[t0]? = some (cA, .object C)) {i : Int} (k : Nat) (hi : i = (k : Int)) (hk : k < N) (hN : N < 2 ^ 31) {b : Nat} (hf : f k = some b) (d : decode cc pc = .ok (.aaload, 1))
    (kk : W p l e R s m args below meth c H locs cells slots Q (F0 m (pc + 1) ls (.ref b :: rest))) : W p l e R s m args below meth c H locs cells slots Q (F0 m pc ls (.int (iI i) :: .ref aa :: rest)) :=
  gq_ald hx hb hK hP q0 t0 ha ht k (by rw [hi, iI_nat]) hk hN hf d kk
theorem zi_ast (hx : p.tables.exec = Jvm.exec) (hb : c.code = cc) (hK : KK g τ s) (hP : va_P g vwCl ws H) (hD : va_D A ws) (hS : va_S A H0 H locs) (q0 : Nat) {aa N : Nat} {f : Nat → Int} (ha : ws[q0]? = some (aa, .inl (τ 0, N, .inl (fun j => iI (f j))))) {i z : Int} (k : Nat) (hi : i = (k : Int)) (hk : k < N) (hN : N < 2 ^ 31) (d : decode cc pc = .ok (.iastore, 1)) (hwo : ws.set q0 (aa, .inl (τ 0, N, .inl (fun j => iI (updZ f k z j)))) = wo)
    (kk : ∀ (H1 : Heap) (locs1 : List Loc), va_P g vwCl wo H1 → va_D A wo → va_S A H0 H1 locs1 → W p l e R s m args below meth c H1 locs1 cells slots Q (F0 m (pc + 1) ls rest)) : W p l e R s m args below meth c H locs cells slots Q (F0 m pc ls (.int (iI z) :: .int (iI i) :: .ref aa :: rest)) :=
  gi_ast hx hb hK hP hD hS q0 ha k (by rw [hi, iI_nat]) hk hN d (by rw [updZ_iI]; exact hwo) kk
theorem zi_max (hx : p.tables.exec = Jvm.exec) (hb : c.code = cc) (hml : c.maxLocals = ls.size) (ha : rng a) (h2 : rng b) (hown : s.vm.findClass own = some m.cls) (hlink : (Cond.methodLink own index Lib.Math.max.name).before args s = true) (hstat : (Cond.static Lib.Math.max.name).before args s = true) (hini : (Cond.initialized "java/lang/Math").before args s = true) (hcode : (Cond.code Lib.Math.max.name Lib.Math.max.code 2 (some .int)).before args s = true)
    (hframes : 1 ≤ R.frames) (hlocals : (rest.map fun v => v.category).sum + 13 ≤ R.locals) (hc : cells ≤ R.cells) (hs : slots ≤ R.slots) (hdg : decode cc pc = .ok (.invokestatic index, 3))
    (kk : W p l e R s m args below meth c H locs cells slots Q (F0 m (pc + 3) ls (.int (iI (max a b)) :: rest))) : W p l e R s m args below meth c H locs cells slots Q (F0 m pc ls (.int (iI b) :: .int (iI a) :: rest)) :=
  va_mmax hx hb hml hown hlink hstat hini hcode hframes hlocals hc hs hdg (by
    have e1 : (if iI a < iI b then iI b else iI a) = iI (max a b) := by
      by_cases q : a < b
      · rw [if_pos ((iI_lt ha h2).mpr q), Int.max_eq_right (by omega)]
      · rw [if_neg (fun z => q ((iI_lt ha h2).mp z)), Int.max_eq_left (by omega)]
    rw [e1]; exact kk)
theorem zi_min (hx : p.tables.exec = Jvm.exec) (hb : c.code = cc) (hml : c.maxLocals = ls.size) (ha : rng a) (h2 : rng b) (hown : s.vm.findClass own = some m.cls) (hlink : (Cond.methodLink own index Lib.Math.min.name).before args s = true) (hstat : (Cond.static Lib.Math.min.name).before args s = true) (hini : (Cond.initialized "java/lang/Math").before args s = true) (hcode : (Cond.code Lib.Math.min.name Lib.Math.min.code 2 (some .int)).before args s = true)
    (hframes : 1 ≤ R.frames) (hlocals : (rest.map fun v => v.category).sum + 13 ≤ R.locals) (hc : cells ≤ R.cells) (hs : slots ≤ R.slots) (hdg : decode cc pc = .ok (.invokestatic index, 3))
    (kk : W p l e R s m args below meth c H locs cells slots Q (F0 m (pc + 3) ls (.int (iI (min a b)) :: rest))) : W p l e R s m args below meth c H locs cells slots Q (F0 m pc ls (.int (iI b) :: .int (iI a) :: rest)) :=
  va_mmin hx hb hml hown hlink hstat hini hcode hframes hlocals hc hs hdg (by
    have e1 : (if iI b < iI a then iI b else iI a) = iI (min a b) := by
      by_cases q : b < a
      · rw [if_pos ((iI_lt h2 ha).mpr q), Int.min_eq_right (by omega)]
      · rw [if_neg (fun z => q ((iI_lt h2 ha).mp z)), Int.min_eq_left (by omega)]
    rw [e1]; exact kk)
theorem zo_iret {r r' : Int} (hx : p.tables.exec = Jvm.exec) (hb : c.code = cc) (hr : meth.sig.returnType = some .int) (hlocks : meth.locks = false) (e1 : r' = r) (d : decode cc pc = .ok (.ireturn, 1)) : W p l e R s m args below meth c s.heap [] 0 0 (MQ below (roQ (some (.int (iI r)))) args s 0 0 nof) (F0 m pc ls [.int (iI r')]) := ro_iret hx hb hr hlocks (by rw [e1]) d
theorem iI_b2 (b : Bool) : iI (zB b) = b2 b := by cases b <;> rfl
theorem zo_zret {B : Bool} {r' : Int} (hx : p.tables.exec = Jvm.exec) (hb : c.code = cc) (hr : meth.sig.returnType = some .boolean) (hlocks : meth.locks = false) (e1 : r' = zB B) (d : decode cc pc = .ok (.ireturn, 1)) : W p l e R s m args below meth c s.heap [] 0 0 (MQ below (roQ (some (.int (iI (zB B))))) args s 0 0 nof) (F0 m pc ls [.int (iI r')]) := ro_zret hx hb hr hlocks ⟨B, iI_b2 B, by rw [e1]; exact iI_b2 B⟩ d
end ZK
