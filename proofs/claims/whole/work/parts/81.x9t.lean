/-! the class: what would be; scripts, simulations, save slots -/
section U20
variable {T : Nat → Nat → Int} {f : Nat → Int}
theorem sLo_20 (s : Nat) : sLo (u2 T 20 f) s = sLo T s ∧ sHi (u2 T 20 f) s = sHi T s := sLo_cg (R := u2 T 20 f) (Q := T) rfl rfl rfl rfl rfl (fun _ _ => rfl)
theorem kRight_20 (c : Nat) : ∀ n, kRight (u2 T 20 f) c n = kRight T c n
  | 0 => rfl
  | n + 1 => by
    unfold kRight
    rw [kRight_20 c n]
    rfl
theorem sSp_20 (s : Nat) : sSp (u2 T 20 f) s = sSp T s := by
  show kSpans (u2 T 20 f) (T 1 0).toNat (T 13 s) = kSpans T (T 1 0).toNat (T 13 s)
  unfold kSpans
  rw [kRight_20]
theorem yFirst_20 (n : Nat) (lo hi sp : Int) : yFirst (u2 T 20 f) n lo hi sp = yFirst T n lo hi sp := rfl
theorem sFirst_20 (s : Nat) : sFirst (u2 T 20 f) s = sFirst T s := by
  show yFirst (u2 T 20 f) (T 1 0).toNat (sLo (u2 T 20 f) s) (sHi (u2 T 20 f) s) (sSp (u2 T 20 f) s) = _
  rw [yFirst_20, (sLo_20 s).1, (sLo_20 s).2, sSp_20]
  rfl
end U20
/-- the judge has dated the seals -/
def DT (R J : Nat → Nat → Int) : Prop := ∀ s : Nat, (s : Int) < R 10 0 → J 0 s = sLo R s ∧ J 1 s = sHi R s ∧ J 2 s = sSp R s ∧ J 4 s = sFirst R s
theorem DT_20 {T J : Nat → Nat → Int} {f : Nat → Int} : DT (u2 T 20 f) J ↔ DT T J := by
  constructor
  · intro h s hs
    have h1 := h s hs
    rw [(sLo_20 s).1, (sLo_20 s).2, sSp_20, sFirst_20] at h1
    exact h1
  · intro h s hs
    rw [(sLo_20 s).1, (sLo_20 s).2, sSp_20, sFirst_20]
    exact h s hs
theorem DT_see {R J : Nat → Nat → Int} (h : SEE R J 6) : DT R J := fun s hs => ⟨(h.1 s hs).1, (h.1 s hs).2.1, (h.1 s hs).2.2.1, (h.1 s hs).2.2.2.1⟩
theorem DT_date {R : Nat → Nat → Int} (hI : SI R) (J : Nat → Nat → Int) : DT R (dateJ R J (R 10 0).toNat) := fun s hs => date_at (by have := hI.s; omega)
theorem aSrt_rs (R : Nat → Nat → Int) (h : Int) : rsR R h = (aSrt R h).2 := by
  unfold rsR aSrt
  by_cases q : 0 ≤ h ∧ h ≤ 5
  · rw [if_pos q, if_neg (by omega)]
  · rw [if_neg q, if_pos (by omega)]
theorem aSrt_0 {R : Nat → Nat → Int} (h : Int) : 0 ≤ (aSrt R h).1 ↔ 0 ≤ h ∧ h ≤ 5 := by
  unfold aSrt
  by_cases q : h < 0 ∨ 6 ≤ h
  · rw [if_pos q]
    constructor
    · intro z
      have z2 : (0 : Int) ≤ -2 := z
      omega
    · intro z
      omega
  · rw [if_neg q]
    constructor
    · intro z
      omega
    · intro z
      exact (cnt_le _ _).1
theorem aHang_ok {R : Nat → Nat → Int} {t q : Int} (h : ¬ (aHang R t q).1 = -2) : (0 ≤ t ∧ t < R 10 0) ∧ 0 ≤ q ∧ q ≤ 5 := by
  unfold aHang at h
  by_cases z : t < 0 ∨ R 10 0 ≤ t ∨ q < 0 ∨ 6 ≤ q
  · rw [if_pos z] at h
    exact absurd rfl h
  · omega
theorem aCrack_10 (R : Nat → Nat → Int) (d y : Int) : (aCrack R d y).2 10 0 = R 10 0 := by
  unfold aCrack
  repeat' split
  all_goals rfl
theorem aHang_1 (R : Nat → Nat → Int) (t q : Int) : (aHang R t q).2 1 = R 1 := by
  unfold aHang
  split
  all_goals rfl
section ZL2
variable {p : Program} {l : Launch} {e : Env} {R : Room} {s : State} {m : MethodId} {args : Array Value} {below : List Frame} {meth : Method} {c : Code} {H H0 : Heap} {locs : List Loc} {cells slots : Nat} {Q : State → Prop}
variable {cc : ByteArray} {pc : Nat} {rest : List Value} {ls : Array Slot} {a b off : Int} {tgt : Nat}
theorem zl_ge (ha : rngl a) (h2 : rngl b) (hx : p.tables.exec = Jvm.exec) (hb : c.code = cc) (d : decode cc pc = .ok (.lcmp, 1)) (d2 : decode cc (pc + 1) = .ok (.ifCond .ge off, 3)) (ht : ((pc + 1 : Nat) : Int) + off = (tgt : Int)) (kt : b ≤ a → W p l e R s m args below meth c H locs cells slots Q (F0 m tgt ls rest)) (kf : a < b → W p l e R s m args below meth c H locs cells slots Q (F0 m (pc + 1 + 3) ls rest)) : W p l e R s m args below meth c H locs cells slots Q (F0 m pc ls (.long (iL b) :: .long (iL a) :: rest)) := by
  refine W.lcmp hx hb d ?_
  rw [lgc ha h2]
  refine zi_if_ge hx hb (by constructor <;> (split <;> try split) <;> omega) d2 ht (fun q => kt ?_) (fun q => kf ?_)
  · split at q
    · omega
    · split at q <;> omega
  · split at q
    · omega
    · split at q <;> omega
end ZL2
theorem rFks_b (R : Nat → Nat → Int) (n : Nat) : 0 ≤ rFks R n ∧ rFks R n ≤ (n : Int) := cnt_le _ _
theorem rBad_b (R : Nat → Nat → Int) (n : Nat) : 0 ≤ rBad R n ∧ rBad R n ≤ (n : Int) := cnt_le _ _
theorem lb_u2 (R : Nat → Nat → Int) (a : Nat) (z : Int) (v : Nat) : u2 (u2 R 20 (updZ (R 20) a z)) 20 (updZ (u2 R 20 (updZ (R 20) a z) 20) a (v : Int)) = u2 R 20 (updZ (R 20) a (v : Int)) := by
  rw [u2_sm, u2_at, ud_ud]
theorem u2_sid (R : Nat → Nat → Int) (a : Nat) : u2 R 20 (updZ (R 20) a (R 20 a)) = R := by
  have e : updZ (R 20) a (R 20 a) = R 20 := by
    funext j
    unfold updZ
    split
    · rename_i h
      rw [h]
    · rfl
  rw [e, u2_id]
theorem f_xtj (X : Nat × va_E) (bd aj : Nat → Nat) (T T2 J J2 : Nat → Nat → Int) (τ : Nat → ClassId) : ([X] ++ (stW bd T2 τ ++ juW aj J2 τ)).map Prod.fst = ([X] ++ (stW bd T τ ++ juW aj J τ)).map Prod.fst := by
  have h := f_ju2 aj bd J J2 T T2 τ
  rw [List.map_append, List.map_append] at h
  have h2 : (juW aj J2 τ).map Prod.fst = (juW aj J τ).map Prod.fst := List.append_inj_left h (by rw [List.length_map, List.length_map, juW_len, juW_len])
  have h3 : (stW bd T2 τ).map Prod.fst = (stW bd T τ).map Prod.fst := rfl
  rw [List.map_append, List.map_append, List.map_append, List.map_append, h2, h3]

theorem pm3_012 (A0 A1 A2 : va_W) : (A0 ++ (A1 ++ A2)).Perm ((A0 ++ (A1 ++ A2)) ++ ([])) := by
  have e : A0 ++ (A1 ++ A2) = (A0 ++ (A1 ++ A2)) ++ ([]) := by simp only [List.append_assoc, List.nil_append, List.append_nil]
  exact Eq.mp (congrArg (List.Perm (A0 ++ (A1 ++ A2))) e) (List.Perm.refl _)

theorem pm3_1 (A0 A1 A2 : va_W) : (A0 ++ (A1 ++ A2)).Perm ((A1) ++ (A0 ++ A2)) := by
  have h := List.Perm.flatMap_right (fun i => ([A0, A1, A2] : List va_W).getD i []) (show List.Perm [0, 1, 2] [1, 0, 2] by decide)
  simpa [List.append_assoc] using h

theorem cd_X9_isFakeBy : cd yX9_isFakeBy 2 := by decide +kernel
theorem in_X9_isFakeBy_X1 : ∀ w ∈ wsX10, w ∈ wsX9_isFakeBy := by decide +kernel
theorem in_X9_isFakeBy_X6 : ∀ w ∈ wsX60, w ∈ wsX9_isFakeBy := by decide +kernel
theorem in_X9_isFakeBy_X9 : ∀ w ∈ wsX90, w ∈ wsX9_isFakeBy := by decide +kernel
set_option maxHeartbeats 1000000 in
set_option maxRecDepth 100000 in
theorem c_X9_isFakeBy (l : Launch) (g : va_G) (τ : Nat → ClassId) (x sl sv : Nat) (ta aj me ad bd : Nat → Nat) (T : Nat → Nat → Int) (hT : SI T) (J : Nat → Nat → Int) (hjb : HB J) (hjs : JSp J) (z1 : Int) (rz1 : -2147483648 ≤ z1 ∧ z1 < 2147483648) (f1 : Int) (rf1 : -2147483648 ≤ f1 ∧ f1 < 2147483648)  : Met l yX9_isFakeBy wsX9_isFakeBy { frames := 5, cells := 0, slots := 0, locals := 105 } (va_Pc [Value.ref x, Value.int (iI z1), Value.int (iI f1)] (rwW g τ ([xoC x (ta 0) (aj 0) (me 0) sl sv (ad 0) (bd 0)] ++ (stW bd T τ ++ juW aj J τ)))) (rwQ g (fun v w => v = some (Value.int (iI (zB (decide ((0 ≤ z1 ∧ z1 ≤ T 10 0 - 1) ∧ rFk T z1.toNat = f1))))) ∧ ∃ J2, HB J2 ∧ JSp J2 ∧ w = [xoC x (ta 0) (aj 0) (me 0) sl sv (ad 0) (bd 0)] ++ (stW bd T τ ++ juW aj J2 τ)) (inW ([xoC x (ta 0) (aj 0) (me 0) sl sv (ad 0) (bd 0)] ++ (stW bd T τ ++ juW aj J τ)))) 0 0 (inW ([xoC x (ta 0) (aj 0) (me 0) sl sv (ad 0) (bd 0)] ++ (stW bd T τ ++ juW aj J τ))) := by
  have hB := hT.hB
  have hr0 := hT.r
  have hd0 := hT.d
  have hs0 := hT.s
  have hN := hT.hN
  refine rwMet (cc := cX9_isFakeBy) (maxL := 3) (ret := (some .boolean)) (lv := [(0, Value.ref x), (1, Value.int (iI z1)), (2, Value.int (iI f1))]) (by decide) rfl (Nat.le_of_ble_eq_true rfl) rfl ?_
  intro p e s m below meth c hx hb hr hml hts hown hlocks A H hP hD hS hK ls hl
  have hP_x := va_left hP
  have hP_t := va_left (va_right hP)
  have hP_j := va_right (va_right hP)
  refine lv_aload_n hx hb dX9_isFakeBy_0 rfl (lv_at hl 0 rfl) ?_
  refine va_get (D := g) (ci := 9) (v := Value.ref (bd 0)) (C := RX9) (T := TX9) (N := 7) hx hb hts in_X9_isFakeBy_X9 hown hK.1 hP_x 0 (rfl) rfl 6 (by decide) (hts _ (List.mem_of_getElem? (i := 1) rfl) : (Cond.fieldLink RX9 45 "CordSeals" "trial" "LCordSeals$State;").before _ s = true) (fun _ h9 => h9) rfl dX9_isFakeBy_1 ?_
  refine va_get (D := g) (ci := 6) (v := Value.ref (bd 10)) (C := RX6) (T := TX6) (N := 5) hx hb hts in_X9_isFakeBy_X6 hown hK.1 hP_t 0 (rfl) rfl 2 (by decide) (hts _ (List.mem_of_getElem? (i := 2) rfl) : (Cond.fieldLink RX9 109 "CordSeals$State" "seals" "LCordSeals$Seals;").before _ s = true) (fun _ h9 => h9) rfl dX9_isFakeBy_4 ?_
  refine lv_iload_n hx hb dX9_isFakeBy_7 rfl (lv_at hl 1 rfl) ?_
  refine ro_V (As := [Value.int (iI z1)]) (rest := []) (v := some (Value.int (iI (zB (dHas (T 10 0) z1))))) ⟨hx, hb, hml, hown, hts⟩ (c_X4_has l g τ bd T hB z1 ⟨by omega, by omega⟩) gX9_isFakeBy_X4_has cd_X4_has rfl rfl ⟨rfl, rfl⟩ ⟨Nat.le_of_ble_eq_true rfl, Nat.le_of_ble_eq_true rfl⟩ hK (hP_t.sub [10, 11, 12, 13, 14, 15, 16] rfl) 0 rfl rfl rfl rfl hl rfl (Nat.le_of_ble_eq_true rfl) dX9_isFakeBy_8 ⟨Nat.le_of_ble_eq_true rfl, Nat.le_of_ble_eq_true rfl⟩ ?_
  refine tl_some ?_
  refine zb_if_ne (tgt := 16) hx hb dX9_isFakeBy_11 (by decide) (fun c_1 => ?_) (fun c_1 => ?_)
  · have _ := c_1
    have hh : 0 ≤ z1 ∧ z1 < T 10 0 := by simpa [dHas] using c_1
    refine lv_aload_n hx hb dX9_isFakeBy_16 rfl (lv_at hl 0 rfl) ?_
    refine va_get (D := g) (ci := 9) (v := Value.ref (aj 0)) (C := RX9) (T := TX9) (N := 7) hx hb hts in_X9_isFakeBy_X9 hown hK.1 hP_x 0 (rfl) rfl 1 (by decide) (hts _ (List.mem_of_getElem? (i := 3) rfl) : (Cond.fieldLink RX9 19 "CordSeals" "judge" "LCordSeals$Judge;").before _ s = true) (fun _ h9 => h9) rfl dX9_isFakeBy_17 ?_
    refine lv_aload_n hx hb dX9_isFakeBy_20 rfl (lv_at hl 0 rfl) ?_
    refine va_get (D := g) (ci := 9) (v := Value.ref (bd 0)) (C := RX9) (T := TX9) (N := 7) hx hb hts in_X9_isFakeBy_X9 hown hK.1 hP_x 0 (rfl) rfl 6 (by decide) (hts _ (List.mem_of_getElem? (i := 1) rfl) : (Cond.fieldLink RX9 45 "CordSeals" "trial" "LCordSeals$State;").before _ s = true) (fun _ h9 => h9) rfl dX9_isFakeBy_21 ?_
    refine rq_V (As := [Value.ref (bd 0)]) (rest := []) ⟨hx, hb, hml, hown, hts⟩ (c_X1_look l g τ bd aj T J hT hjb hjs) gX9_isFakeBy_X1_look cd_X1_look rfl rfl ⟨rfl, rfl⟩ ⟨Nat.le_of_ble_eq_true rfl, Nat.le_of_ble_eq_true rfl⟩ hK hP hD hS (pm3_21 _ _ _) 0 rfl rfl rfl rfl hl rfl (Nat.le_of_ble_eq_true rfl) dX9_isFakeBy_24 ⟨Nat.le_of_ble_eq_true rfl, Nat.le_of_ble_eq_true rfl⟩ (fun v w h => by rw [h.2]; exact f_ju aj bd _ _ _ _) (fun v w1 H locs hZ hP hD hS => ?_)
    obtain ⟨rfl, rfl⟩ := hZ
    have hP : va_P g vwCl ([xoC x (ta 0) (aj 0) (me 0) sl sv (ad 0) (bd 0)] ++ (stW bd T τ ++ juW aj (seeJ T J) τ)) H := hP.pm (pm3_21 _ _ _).symm
    have hD : va_D A ([xoC x (ta 0) (aj 0) (me 0) sl sv (ad 0) (bd 0)] ++ (stW bd T τ ++ juW aj (seeJ T J) τ)) := hD.pm (pm3_21 _ _ _).symm
    obtain ⟨J1, hjb1, hjs1, hse1, hje⟩ : ∃ J1, HB J1 ∧ JSp J1 ∧ SEE T J1 6 ∧ seeJ T J = J1 := ⟨_, (see_ok hT hjb hjs).1, (see_ok hT hjb hjs).2, SEE_see hT J, rfl⟩
    rw [hje] at hP hD
    have hP_x := va_left hP
    have hP_t := va_left (va_right hP)
    have hP_j := va_right (va_right hP)
    refine tl_none ?_
    have e3 := (j3_eq hT hse1 (s := z1.toNat) (by omega)).1
    refine lv_aload_n hx hb dX9_isFakeBy_27 rfl (lv_at hl 0 rfl) ?_
    refine va_get (D := g) (ci := 9) (v := Value.ref (aj 0)) (C := RX9) (T := TX9) (N := 7) hx hb hts in_X9_isFakeBy_X9 hown hK.1 hP_x 0 (rfl) rfl 1 (by decide) (hts _ (List.mem_of_getElem? (i := 3) rfl) : (Cond.fieldLink RX9 19 "CordSeals" "judge" "LCordSeals$Judge;").before _ s = true) (fun _ h9 => h9) rfl dX9_isFakeBy_28 ?_
    refine va_get (D := g) (ci := 1) (v := Value.ref (aj 3)) (C := RX1) (T := TX1) (N := 6) hx hb hts in_X9_isFakeBy_X1 hown hK.1 hP_j 0 (rfl) rfl 2 (by decide) (hts _ (List.mem_of_getElem? (i := 4) rfl) : (Cond.fieldLink RX9 222 "CordSeals$Judge" "reason" "[I").before _ s = true) (fun _ h9 => h9) rfl dX9_isFakeBy_31 ?_
    refine lv_iload_n hx hb dX9_isFakeBy_34 rfl (lv_at hl 1 rfl) ?_
    refine zi_ald hx hb hK hP_j 3 (f := (J1 3)) (rfl) ((z1).toNat) (by omega) (by omega) (by decide) dX9_isFakeBy_35 ?_
    have hb_2 := hjb1 3 ((z1).toNat)
    refine lv_iload_n hx hb dX9_isFakeBy_36 rfl (lv_at hl 2 rfl) ?_
    refine zi_icmp_ne (tgt := 44) hx hb ⟨by omega, by omega⟩ ⟨by omega, by omega⟩ dX9_isFakeBy_37 (by decide) (fun c_3 => ?_) (fun c_3 => ?_)
    · have _ := c_3
      refine lv_iconst (v := iI 0) hx hb dX9_isFakeBy_44 (by decide) ?_
      exact rw_zret hx hb hr hlocks hP hS (⟨⟨by rw [decide_eq_false (by omega)]; rfl, _, hjb1, hjs1, rfl⟩, false, rfl⟩) dX9_isFakeBy_45
    · have _ := c_3
      refine lv_iconst (v := iI 1) hx hb dX9_isFakeBy_40 (by decide) ?_
      refine lv_goto (tgt := 45) hx hb dX9_isFakeBy_41 (by decide) ?_
      exact rw_zret hx hb hr hlocks hP hS (⟨⟨by rw [decide_eq_true (by omega)]; rfl, _, hjb1, hjs1, rfl⟩, true, rfl⟩) dX9_isFakeBy_45
  · have _ := c_1
    have hh : z1 < 0 ∨ T 10 0 ≤ z1 := by have := c_1; simp [dHas] at this; omega
    refine lv_iconst (v := iI 0) hx hb dX9_isFakeBy_14 (by decide) ?_
    exact rw_zret hx hb hr hlocks hP hS (⟨⟨by rw [decide_eq_false (by omega)]; rfl, J, hjb, hjs, rfl⟩, false, rfl⟩) dX9_isFakeBy_15

theorem cd_X9_succeeds : cd yX9_succeeds 1 := by decide +kernel
theorem in_X9_succeeds_X9 : ∀ w ∈ wsX90, w ∈ wsX9_succeeds := by decide +kernel
set_option maxHeartbeats 8000000 in
set_option maxRecDepth 100000 in
theorem c_X9_succeeds (l : Launch) (g : va_G) (τ : Nat → ClassId) (x sl sv : Nat) (ta aj me ad bd : Nat → Nat) (T : Nat → Nat → Int) (hT : SI T) (J : Nat → Nat → Int) (hjb : HB J) (hjs : JSp J) (g1 : Int) (hg1 : 0 ≤ g1 ∧ g1 < 1000000)  : Met l yX9_succeeds wsX9_succeeds { frames := 6, cells := 0, slots := 0, locals := 129 } (va_Pc [Value.ref x, Value.int (iI g1)] (rwW g τ ([xoC x (ta 0) (aj 0) (me 0) sl sv (ad 0) (bd 0)] ++ (stW bd T τ ++ juW aj J τ)))) (rwQ g (fun v w => v = some (Value.int (iI (zB (qCmd T g1).1))) ∧ ∃ J2, HB J2 ∧ JSp J2 ∧ w = [xoC x (ta 0) (aj 0) (me 0) sl sv (ad 0) (bd 0)] ++ (stW bd ((qCmd T g1).2) τ ++ juW aj J2 τ)) (inW ([xoC x (ta 0) (aj 0) (me 0) sl sv (ad 0) (bd 0)] ++ (stW bd T τ ++ juW aj J τ)))) 0 0 (inW ([xoC x (ta 0) (aj 0) (me 0) sl sv (ad 0) (bd 0)] ++ (stW bd T τ ++ juW aj J τ))) := by
  have hB := hT.hB
  have hr0 := hT.r
  have hd0 := hT.d
  have hs0 := hT.s
  have hN := hT.hN
  refine rwMet (cc := cX9_succeeds) (maxL := 5) (ret := (some .boolean)) (lv := [(0, Value.ref x), (1, Value.int (iI g1))]) (by decide) rfl (Nat.le_of_ble_eq_true rfl) rfl ?_
  intro p e s m below meth c hx hb hr hml hts hown hlocks A H hP hD hS hK ls hl
  have hP_x := va_left hP
  have hP_t := va_left (va_right hP)
  have hP_j := va_right (va_right hP)
  refine lv_iload_n hx hb dX9_succeeds_0 rfl (lv_at hl 1 rfl) ?_
  refine lv_sipush (v := iI 10000) hx hb dX9_succeeds_1 (by decide) ?_
  refine zi_div hx hb ⟨by omega, by omega⟩ ⟨by decide, by decide⟩ dX9_succeeds_4 ?_
  refine lv_bipush (v := iI 10) hx hb dX9_succeeds_5 (by decide) ?_
  refine zi_rem hx hb ⟨by omega, by omega⟩ ⟨by decide, by decide⟩ dX9_succeeds_7 ?_
  refine lv_istore_n (lv' := [(2, Value.int (iI ((g1 / 10000) % 10))), (0, Value.ref x), (1, Value.int (iI g1))]) hx hb dX9_succeeds_8 rfl hl (by decide) rfl (fun ls hl => ?_)
  refine lv_iload_n hx hb dX9_succeeds_9 rfl (lv_at hl 2 rfl) ?_
  refine lv_sipush (v := iI 1000) hx hb dX9_succeeds_10 (by decide) ?_
  refine zi_div hx hb ⟨by omega, by omega⟩ ⟨by decide, by decide⟩ dX9_succeeds_13 ?_
  refine lv_bipush (v := iI 100) hx hb dX9_succeeds_14 (by decide) ?_
  refine zi_rem hx hb ⟨by omega, by omega⟩ ⟨by decide, by decide⟩ dX9_succeeds_16 ?_
  refine lv_istore_n (lv' := [(3, Value.int (iI ((g1 / 1000) % 100))), (2, Value.int (iI ((g1 / 10000) % 10))), (0, Value.ref x), (1, Value.int (iI g1))]) hx hb dX9_succeeds_17 rfl hl (by decide) rfl (fun ls hl => ?_)
  refine lv_iload_n hx hb dX9_succeeds_18 rfl (lv_at hl 3 rfl) ?_
  refine lv_bipush (v := iI 100) hx hb dX9_succeeds_19 (by decide) ?_
  refine zi_div hx hb ⟨by omega, by omega⟩ ⟨by decide, by decide⟩ dX9_succeeds_21 ?_
  refine lv_bipush (v := iI 10) hx hb dX9_succeeds_22 (by decide) ?_
  refine zi_rem hx hb ⟨by omega, by omega⟩ ⟨by decide, by decide⟩ dX9_succeeds_24 ?_
  refine lv_istore (lv' := [(4, Value.int (iI ((g1 / 100) % 10))), (3, Value.int (iI ((g1 / 1000) % 100))), (2, Value.int (iI ((g1 / 10000) % 10))), (0, Value.ref x), (1, Value.int (iI g1))]) hx hb dX9_succeeds_25 hl (by decide) rfl (fun ls hl => ?_)
  refine lv_iload_n hx hb dX9_succeeds_27 rfl (lv_at hl 4 rfl) ?_
  refine lv_ldcw (v := iI 100000) hx hb hown (hts _ (List.mem_of_getElem? (i := 1) rfl)) dX9_succeeds_28 ?_
  refine zi_div hx hb ⟨by omega, by omega⟩ ⟨by decide, by decide⟩ dX9_succeeds_31 ?_
  by_cases k_1_1 : (g1 / 100000) = 1
  · refine zi_tabl (tgt := 84) (x := g1 / 100000) k_1_1 hx hb ⟨by decide, by decide⟩ (v := 1) dX9_succeeds_32 (by decide) (by decide) (off := 52) (by decide +kernel) (by decide) ?_
    refine lv_aload_n hx hb dX9_succeeds_84 rfl (lv_at hl 3 rfl) ?_
    refine va_get (D := g) (ci := 9) (v := Value.ref (bd 0)) (C := RX9) (T := TX9) (N := 7) hx hb hts in_X9_succeeds_X9 hown hK.1 hP_x 0 (rfl) rfl 6 (by decide) (hts _ (List.mem_of_getElem? (i := 2) rfl) : (Cond.fieldLink RX9 45 "CordSeals" "trial" "LCordSeals$State;").before _ s = true) (fun _ h9 => h9) rfl dX9_succeeds_85 ?_
    refine lv_iload_n hx hb dX9_succeeds_88 rfl (lv_at hl 2 rfl) ?_
    refine lv_iload_n hx hb dX9_succeeds_89 rfl (lv_at hl 4 rfl) ?_
    refine lv_sipush (v := iI 10000) hx hb dX9_succeeds_90 (by decide) ?_
    refine zi_rem hx hb ⟨by omega, by omega⟩ ⟨by decide, by decide⟩ dX9_succeeds_93 ?_
    refine rq_V (As := [Value.int (iI ((g1 / 10000) % 10)), Value.int (iI (g1 % 10000))]) (rest := []) ⟨hx, hb, hml, hown, hts⟩ (c_X6_addCrack l g τ bd T hT ((g1 / 10000) % 10) ⟨by omega, by omega⟩ (g1 % 10000) ⟨by omega, by omega⟩) gX9_succeeds_X6_addCrack cd_X6_addCrack rfl rfl ⟨rfl, rfl⟩ ⟨Nat.le_of_ble_eq_true rfl, Nat.le_of_ble_eq_true rfl⟩ hK hP hD hS (pm3_1 _ _ _) 0 rfl rfl rfl rfl hl rfl (Nat.le_of_ble_eq_true rfl) dX9_succeeds_94 ⟨Nat.le_of_ble_eq_true rfl, Nat.le_of_ble_eq_true rfl⟩ (fun v w h => by rw [h.2]; exact f_stx bd ta _ _ _) (fun v w1 H locs hZ hP hD hS => ?_)
    obtain ⟨rfl, rfl⟩ := hZ
    have hP : va_P g vwCl ([xoC x (ta 0) (aj 0) (me 0) sl sv (ad 0) (bd 0)] ++ (stW bd ((aCrack T ((g1 / 10000) % 10) (g1 % 10000)).2) τ ++ juW aj J τ)) H := hP.pm (pm3_1 _ _ _).symm
    have hD : va_D A ([xoC x (ta 0) (aj 0) (me 0) sl sv (ad 0) (bd 0)] ++ (stW bd ((aCrack T ((g1 / 10000) % 10) (g1 % 10000)).2) τ ++ juW aj J τ)) := hD.pm (pm3_1 _ _ _).symm
    have hP_x := va_left hP
    have hP_t := va_left (va_right hP)
    have hP_j := va_right (va_right hP)
    refine tl_some ?_
    have hra := aCrack_r hT ((g1 / 10000) % 10) (g1 % 10000)
    refine zi_if_lt (tgt := 104) hx hb ⟨by omega, by omega⟩ dX9_succeeds_97 (by decide) (fun c_2 => ?_) (fun c_2 => ?_)
    · have _ := c_2
      refine lv_iconst (v := iI 0) hx hb dX9_succeeds_104 (by decide) ?_
      exact rw_zret hx hb hr hlocks hP hS ((by (have hq : qCmd T g1 = (false, (aCrack T ((g1 / 10000) % 10) (g1 % 10000)).2) := (by unfold qCmd; rw [if_pos (by omega)]; exact (by unfold qA; rw [decide_eq_false (by omega)]))); rw [hq]; exact ⟨⟨rfl, _, hjb, hjs, rfl⟩, false, rfl⟩)) dX9_succeeds_105
    · have _ := c_2
      refine lv_iconst (v := iI 1) hx hb dX9_succeeds_100 (by decide) ?_
      refine lv_goto (tgt := 105) hx hb dX9_succeeds_101 (by decide) ?_
      exact rw_zret hx hb hr hlocks hP hS ((by (have hq : qCmd T g1 = (true, (aCrack T ((g1 / 10000) % 10) (g1 % 10000)).2) := (by unfold qCmd; rw [if_pos (by omega)]; exact (by unfold qA; rw [decide_eq_true (by omega)]))); rw [hq]; exact ⟨⟨rfl, _, hjb, hjs, rfl⟩, true, rfl⟩)) dX9_succeeds_105
  by_cases k_1_2 : (g1 / 100000) = 2
  · refine zi_tabl (tgt := 106) (x := g1 / 100000) k_1_2 hx hb ⟨by decide, by decide⟩ (v := 2) dX9_succeeds_32 (by decide) (by decide) (off := 74) (by decide +kernel) (by decide) ?_
    refine lv_iload_n hx hb dX9_succeeds_106 rfl (lv_at hl 4 rfl) ?_
    refine lv_bipush (v := iI 100) hx hb dX9_succeeds_107 (by decide) ?_
    refine zi_rem hx hb ⟨by omega, by omega⟩ ⟨by decide, by decide⟩ dX9_succeeds_109 ?_
    refine zi_if_ne (tgt := 130) hx hb ⟨by omega, by omega⟩ dX9_succeeds_110 (by decide) (fun c_3 => ?_) (fun c_3 => ?_)
    · have _ := c_3
      refine lv_iconst (v := iI 0) hx hb dX9_succeeds_130 (by decide) ?_
      exact rw_zret hx hb hr hlocks hP hS ((by (have hq : qCmd T g1 = (false, T) := (by unfold qCmd; rw [if_neg (by omega), if_pos (by omega), if_neg (by omega)])); rw [hq]; exact ⟨⟨rfl, _, hjb, hjs, rfl⟩, false, rfl⟩)) dX9_succeeds_131
    · have _ := c_3
      refine lv_aload_n hx hb dX9_succeeds_113 rfl (lv_at hl 3 rfl) ?_
      refine va_get (D := g) (ci := 9) (v := Value.ref (bd 0)) (C := RX9) (T := TX9) (N := 7) hx hb hts in_X9_succeeds_X9 hown hK.1 hP_x 0 (rfl) rfl 6 (by decide) (hts _ (List.mem_of_getElem? (i := 2) rfl) : (Cond.fieldLink RX9 45 "CordSeals" "trial" "LCordSeals$State;").before _ s = true) (fun _ h9 => h9) rfl dX9_succeeds_114 ?_
      refine lv_iload_n hx hb dX9_succeeds_117 rfl (lv_at hl 1 rfl) ?_
      refine lv_iload hx hb dX9_succeeds_118 (lv_at hl 0 rfl) ?_
      refine rq_V (As := [Value.int (iI ((g1 / 1000) % 100)), Value.int (iI ((g1 / 100) % 10))]) (rest := []) ⟨hx, hb, hml, hown, hts⟩ (c_X6_hangOn l g τ bd T hT ((g1 / 1000) % 100) ⟨by omega, by omega⟩ ((g1 / 100) % 10) ⟨by omega, by omega⟩) gX9_succeeds_X6_hangOn cd_X6_hangOn rfl rfl ⟨rfl, rfl⟩ ⟨Nat.le_of_ble_eq_true rfl, Nat.le_of_ble_eq_true rfl⟩ hK hP hD hS (pm3_1 _ _ _) 0 rfl rfl rfl rfl hl rfl (Nat.le_of_ble_eq_true rfl) dX9_succeeds_120 ⟨Nat.le_of_ble_eq_true rfl, Nat.le_of_ble_eq_true rfl⟩ (fun v w h => by rw [h.2]; exact f_stx bd ta _ _ _) (fun v w1 H locs hZ hP hD hS => ?_)
      obtain ⟨rfl, rfl⟩ := hZ
      have hP : va_P g vwCl ([xoC x (ta 0) (aj 0) (me 0) sl sv (ad 0) (bd 0)] ++ (stW bd ((aHang T ((g1 / 1000) % 100) ((g1 / 100) % 10)).2) τ ++ juW aj J τ)) H := hP.pm (pm3_1 _ _ _).symm
      have hD : va_D A ([xoC x (ta 0) (aj 0) (me 0) sl sv (ad 0) (bd 0)] ++ (stW bd ((aHang T ((g1 / 1000) % 100) ((g1 / 100) % 10)).2) τ ++ juW aj J τ)) := hD.pm (pm3_1 _ _ _).symm
      have hP_x := va_left hP
      have hP_t := va_left (va_right hP)
      have hP_j := va_right (va_right hP)
      refine tl_some ?_
      have hra := aHang_r hT ((g1 / 1000) % 100) ((g1 / 100) % 10)
      refine zi_if_lt (tgt := 130) hx hb ⟨by omega, by omega⟩ dX9_succeeds_123 (by decide) (fun c_4 => ?_) (fun c_4 => ?_)
      · have _ := c_4
        refine lv_iconst (v := iI 0) hx hb dX9_succeeds_130 (by decide) ?_
        exact rw_zret hx hb hr hlocks hP hS ((by (have hq : qCmd T g1 = (false, (aHang T ((g1 / 1000) % 100) ((g1 / 100) % 10)).2) := (by unfold qCmd; rw [if_neg (by omega), if_pos (by omega), if_pos (by omega)]; exact (by unfold qA; rw [decide_eq_false (by omega)]))); rw [hq]; exact ⟨⟨rfl, _, hjb, hjs, rfl⟩, false, rfl⟩)) dX9_succeeds_131
      · have _ := c_4
        refine lv_iconst (v := iI 1) hx hb dX9_succeeds_126 (by decide) ?_
        refine lv_goto (tgt := 131) hx hb dX9_succeeds_127 (by decide) ?_
        exact rw_zret hx hb hr hlocks hP hS ((by (have hq : qCmd T g1 = (true, (aHang T ((g1 / 1000) % 100) ((g1 / 100) % 10)).2) := (by unfold qCmd; rw [if_neg (by omega), if_pos (by omega), if_pos (by omega)]; exact (by unfold qA; rw [decide_eq_true (by omega)]))); rw [hq]; exact ⟨⟨rfl, _, hjb, hjs, rfl⟩, true, rfl⟩)) dX9_succeeds_131
  by_cases k_1_3 : (g1 / 100000) = 3
  · refine zi_tabl (tgt := 132) (x := g1 / 100000) k_1_3 hx hb ⟨by decide, by decide⟩ (v := 3) dX9_succeeds_32 (by decide) (by decide) (off := 100) (by decide +kernel) (by decide) ?_
    refine lv_iload_n hx hb dX9_succeeds_132 rfl (lv_at hl 4 rfl) ?_
    refine lv_sipush (v := iI 1000) hx hb dX9_succeeds_133 (by decide) ?_
    refine zi_rem hx hb ⟨by omega, by omega⟩ ⟨by decide, by decide⟩ dX9_succeeds_136 ?_
    refine zi_if_ne (tgt := 155) hx hb ⟨by omega, by omega⟩ dX9_succeeds_137 (by decide) (fun c_5 => ?_) (fun c_5 => ?_)
    · have _ := c_5
      refine lv_iconst (v := iI 0) hx hb dX9_succeeds_155 (by decide) ?_
      exact rw_zret hx hb hr hlocks hP hS ((by (have hq : qCmd T g1 = (false, T) := (by unfold qCmd; rw [if_neg (by omega), if_neg (by omega), if_pos (by omega), if_neg (by omega)])); rw [hq]; exact ⟨⟨rfl, _, hjb, hjs, rfl⟩, false, rfl⟩)) dX9_succeeds_156
    · have _ := c_5
      refine lv_aload_n hx hb dX9_succeeds_140 rfl (lv_at hl 3 rfl) ?_
      refine va_get (D := g) (ci := 9) (v := Value.ref (bd 0)) (C := RX9) (T := TX9) (N := 7) hx hb hts in_X9_succeeds_X9 hown hK.1 hP_x 0 (rfl) rfl 6 (by decide) (hts _ (List.mem_of_getElem? (i := 2) rfl) : (Cond.fieldLink RX9 45 "CordSeals" "trial" "LCordSeals$State;").before _ s = true) (fun _ h9 => h9) rfl dX9_succeeds_141 ?_
      refine lv_iload_n hx hb dX9_succeeds_144 rfl (lv_at hl 1 rfl) ?_
      refine rq_V (As := [Value.int (iI ((g1 / 1000) % 100))]) (rest := []) ⟨hx, hb, hml, hown, hts⟩ (c_X6_cutOff l g τ bd T hT ((g1 / 1000) % 100) ⟨by omega, by omega⟩) gX9_succeeds_X6_cutOff cd_X6_cutOff rfl rfl ⟨rfl, rfl⟩ ⟨Nat.le_of_ble_eq_true rfl, Nat.le_of_ble_eq_true rfl⟩ hK hP hD hS (pm3_1 _ _ _) 0 rfl rfl rfl rfl hl rfl (Nat.le_of_ble_eq_true rfl) dX9_succeeds_145 ⟨Nat.le_of_ble_eq_true rfl, Nat.le_of_ble_eq_true rfl⟩ (fun v w h => by rw [h.2]; exact f_stx bd ta _ _ _) (fun v w1 H locs hZ hP hD hS => ?_)
      obtain ⟨rfl, rfl⟩ := hZ
      have hP : va_P g vwCl ([xoC x (ta 0) (aj 0) (me 0) sl sv (ad 0) (bd 0)] ++ (stW bd ((aCut T ((g1 / 1000) % 100)).2) τ ++ juW aj J τ)) H := hP.pm (pm3_1 _ _ _).symm
      have hD : va_D A ([xoC x (ta 0) (aj 0) (me 0) sl sv (ad 0) (bd 0)] ++ (stW bd ((aCut T ((g1 / 1000) % 100)).2) τ ++ juW aj J τ)) := hD.pm (pm3_1 _ _ _).symm
      have hP_x := va_left hP
      have hP_t := va_left (va_right hP)
      have hP_j := va_right (va_right hP)
      refine tl_some ?_
      have hra := aCut_r hT ((g1 / 1000) % 100)
      refine zi_if_lt (tgt := 155) hx hb ⟨by omega, by omega⟩ dX9_succeeds_148 (by decide) (fun c_6 => ?_) (fun c_6 => ?_)
      · have _ := c_6
        refine lv_iconst (v := iI 0) hx hb dX9_succeeds_155 (by decide) ?_
        exact rw_zret hx hb hr hlocks hP hS ((by (have hq : qCmd T g1 = (false, (aCut T ((g1 / 1000) % 100)).2) := (by unfold qCmd; rw [if_neg (by omega), if_neg (by omega), if_pos (by omega), if_pos (by omega)]; exact (by unfold qA; rw [decide_eq_false (by omega)]))); rw [hq]; exact ⟨⟨rfl, _, hjb, hjs, rfl⟩, false, rfl⟩)) dX9_succeeds_156
      · have _ := c_6
        refine lv_iconst (v := iI 1) hx hb dX9_succeeds_151 (by decide) ?_
        refine lv_goto (tgt := 156) hx hb dX9_succeeds_152 (by decide) ?_
        exact rw_zret hx hb hr hlocks hP hS ((by (have hq : qCmd T g1 = (true, (aCut T ((g1 / 1000) % 100)).2) := (by unfold qCmd; rw [if_neg (by omega), if_neg (by omega), if_pos (by omega), if_pos (by omega)]; exact (by unfold qA; rw [decide_eq_true (by omega)]))); rw [hq]; exact ⟨⟨rfl, _, hjb, hjs, rfl⟩, true, rfl⟩)) dX9_succeeds_156
  by_cases k_1_4 : (g1 / 100000) = 4
  · refine zi_tabl (tgt := 157) (x := g1 / 100000) k_1_4 hx hb ⟨by decide, by decide⟩ (v := 4) dX9_succeeds_32 (by decide) (by decide) (off := 125) (by decide +kernel) (by decide) ?_
    refine lv_iload_n hx hb dX9_succeeds_157 rfl (lv_at hl 4 rfl) ?_
    refine lv_bipush (v := iI 10) hx hb dX9_succeeds_158 (by decide) ?_
    refine zi_rem hx hb ⟨by omega, by omega⟩ ⟨by decide, by decide⟩ dX9_succeeds_160 ?_
    refine zi_if_ne (tgt := 188) hx hb ⟨by omega, by omega⟩ dX9_succeeds_161 (by decide) (fun c_7 => ?_) (fun c_7 => ?_)
    · have _ := c_7
      refine lv_iconst (v := iI 0) hx hb dX9_succeeds_188 (by decide) ?_
      exact rw_zret hx hb hr hlocks hP hS ((by (have hq : qCmd T g1 = (false, T) := (by unfold qCmd; rw [if_neg (by omega), if_neg (by omega), if_neg (by omega), if_pos (by omega), if_neg (by omega)])); rw [hq]; exact ⟨⟨rfl, _, hjb, hjs, rfl⟩, false, rfl⟩)) dX9_succeeds_189
    · have _ := c_7
      refine lv_aload_n hx hb dX9_succeeds_164 rfl (lv_at hl 3 rfl) ?_
      refine va_get (D := g) (ci := 9) (v := Value.ref (bd 0)) (C := RX9) (T := TX9) (N := 7) hx hb hts in_X9_succeeds_X9 hown hK.1 hP_x 0 (rfl) rfl 6 (by decide) (hts _ (List.mem_of_getElem? (i := 2) rfl) : (Cond.fieldLink RX9 45 "CordSeals" "trial" "LCordSeals$State;").before _ s = true) (fun _ h9 => h9) rfl dX9_succeeds_165 ?_
      refine lv_iload_n hx hb dX9_succeeds_168 rfl (lv_at hl 1 rfl) ?_
      refine lv_iload hx hb dX9_succeeds_169 (lv_at hl 0 rfl) ?_
      refine lv_iload_n hx hb dX9_succeeds_171 rfl (lv_at hl 4 rfl) ?_
      refine lv_bipush (v := iI 10) hx hb dX9_succeeds_172 (by decide) ?_
      refine zi_div hx hb ⟨by omega, by omega⟩ ⟨by decide, by decide⟩ dX9_succeeds_174 ?_
      refine lv_bipush (v := iI 10) hx hb dX9_succeeds_175 (by decide) ?_
      refine zi_rem hx hb ⟨by omega, by omega⟩ ⟨by decide, by decide⟩ dX9_succeeds_177 ?_
      refine cv_i (y := iI (g1 % 100 / 10)) (congrArg iI (by omega)) ?_
      refine rq_V (As := [Value.int (iI ((g1 / 1000) % 100)), Value.int (iI ((g1 / 100) % 10)), Value.int (iI (g1 % 100 / 10))]) (rest := []) ⟨hx, hb, hml, hown, hts⟩ (c_X6_putOnShelf l g τ bd T hT ((g1 / 1000) % 100) ⟨by omega, by omega⟩ ((g1 / 100) % 10) ⟨by omega, by omega⟩ (g1 % 100 / 10) ⟨by omega, by omega⟩) gX9_succeeds_X6_putOnShelf cd_X6_putOnShelf rfl rfl ⟨rfl, rfl⟩ ⟨Nat.le_of_ble_eq_true rfl, Nat.le_of_ble_eq_true rfl⟩ hK hP hD hS (pm3_1 _ _ _) 0 rfl rfl rfl rfl hl rfl (Nat.le_of_ble_eq_true rfl) dX9_succeeds_178 ⟨Nat.le_of_ble_eq_true rfl, Nat.le_of_ble_eq_true rfl⟩ (fun v w h => by rw [h.2]; exact f_stx bd ta _ _ _) (fun v w1 H locs hZ hP hD hS => ?_)
      obtain ⟨rfl, rfl⟩ := hZ
      have hP : va_P g vwCl ([xoC x (ta 0) (aj 0) (me 0) sl sv (ad 0) (bd 0)] ++ (stW bd ((aShelve T ((g1 / 1000) % 100) ((g1 / 100) % 10) (g1 % 100 / 10)).2) τ ++ juW aj J τ)) H := hP.pm (pm3_1 _ _ _).symm
      have hD : va_D A ([xoC x (ta 0) (aj 0) (me 0) sl sv (ad 0) (bd 0)] ++ (stW bd ((aShelve T ((g1 / 1000) % 100) ((g1 / 100) % 10) (g1 % 100 / 10)).2) τ ++ juW aj J τ)) := hD.pm (pm3_1 _ _ _).symm
      have hP_x := va_left hP
      have hP_t := va_left (va_right hP)
      have hP_j := va_right (va_right hP)
      refine tl_some ?_
      have hra := aShelve_r hT ((g1 / 1000) % 100) ((g1 / 100) % 10) (g1 % 100 / 10)
      refine zi_if_lt (tgt := 188) hx hb ⟨by omega, by omega⟩ dX9_succeeds_181 (by decide) (fun c_8 => ?_) (fun c_8 => ?_)
      · have _ := c_8
        refine lv_iconst (v := iI 0) hx hb dX9_succeeds_188 (by decide) ?_
        exact rw_zret hx hb hr hlocks hP hS ((by (have hq : qCmd T g1 = (false, (aShelve T ((g1 / 1000) % 100) ((g1 / 100) % 10) (g1 % 100 / 10)).2) := (by unfold qCmd; rw [if_neg (by omega), if_neg (by omega), if_neg (by omega), if_pos (by omega), if_pos (by omega)]; exact (by unfold qA; rw [decide_eq_false (by omega)]))); rw [hq]; exact ⟨⟨rfl, _, hjb, hjs, rfl⟩, false, rfl⟩)) dX9_succeeds_189
      · have _ := c_8
        refine lv_iconst (v := iI 1) hx hb dX9_succeeds_184 (by decide) ?_
        refine lv_goto (tgt := 189) hx hb dX9_succeeds_185 (by decide) ?_
        exact rw_zret hx hb hr hlocks hP hS ((by (have hq : qCmd T g1 = (true, (aShelve T ((g1 / 1000) % 100) ((g1 / 100) % 10) (g1 % 100 / 10)).2) := (by unfold qCmd; rw [if_neg (by omega), if_neg (by omega), if_neg (by omega), if_pos (by omega), if_pos (by omega)]; exact (by unfold qA; rw [decide_eq_true (by omega)]))); rw [hq]; exact ⟨⟨rfl, _, hjb, hjs, rfl⟩, true, rfl⟩)) dX9_succeeds_189
  by_cases k_1_5 : (g1 / 100000) = 5
  · refine zi_tabl (tgt := 190) (x := g1 / 100000) k_1_5 hx hb ⟨by decide, by decide⟩ (v := 5) dX9_succeeds_32 (by decide) (by decide) (off := 158) (by decide +kernel) (by decide) ?_
    refine lv_iload_n hx hb dX9_succeeds_190 rfl (lv_at hl 4 rfl) ?_
    refine lv_bipush (v := iI 10) hx hb dX9_succeeds_191 (by decide) ?_
    refine zi_rem hx hb ⟨by omega, by omega⟩ ⟨by decide, by decide⟩ dX9_succeeds_193 ?_
    refine zi_if_ne (tgt := 219) hx hb ⟨by omega, by omega⟩ dX9_succeeds_194 (by decide) (fun c_9 => ?_) (fun c_9 => ?_)
    · have _ := c_9
      refine lv_iconst (v := iI 0) hx hb dX9_succeeds_219 (by decide) ?_
      exact rw_zret hx hb hr hlocks hP hS ((by (have hq : qCmd T g1 = (false, T) := (by unfold qCmd; rw [if_neg (by omega), if_neg (by omega), if_neg (by omega), if_neg (by omega), if_pos (by omega), if_neg (by omega)])); rw [hq]; exact ⟨⟨rfl, _, hjb, hjs, rfl⟩, false, rfl⟩)) dX9_succeeds_220
    · have _ := c_9
      refine lv_aload_n hx hb dX9_succeeds_197 rfl (lv_at hl 3 rfl) ?_
      refine va_get (D := g) (ci := 9) (v := Value.ref (bd 0)) (C := RX9) (T := TX9) (N := 7) hx hb hts in_X9_succeeds_X9 hown hK.1 hP_x 0 (rfl) rfl 6 (by decide) (hts _ (List.mem_of_getElem? (i := 2) rfl) : (Cond.fieldLink RX9 45 "CordSeals" "trial" "LCordSeals$State;").before _ s = true) (fun _ h9 => h9) rfl dX9_succeeds_198 ?_
      refine lv_iload_n hx hb dX9_succeeds_201 rfl (lv_at hl 1 rfl) ?_
      refine lv_iload_n hx hb dX9_succeeds_202 rfl (lv_at hl 4 rfl) ?_
      refine lv_bipush (v := iI 10) hx hb dX9_succeeds_203 (by decide) ?_
      refine zi_div hx hb ⟨by omega, by omega⟩ ⟨by decide, by decide⟩ dX9_succeeds_205 ?_
      refine lv_bipush (v := iI 100) hx hb dX9_succeeds_206 (by decide) ?_
      refine zi_rem hx hb ⟨by omega, by omega⟩ ⟨by decide, by decide⟩ dX9_succeeds_208 ?_
      refine rq_V (As := [Value.int (iI ((g1 / 1000) % 100)), Value.int (iI ((g1 / 10) % 100))]) (rest := []) ⟨hx, hb, hml, hown, hts⟩ (c_X6_showCracks l g τ bd T hT ((g1 / 1000) % 100) ⟨by omega, by omega⟩ ((g1 / 10) % 100) ⟨by omega, by omega⟩) gX9_succeeds_X6_showCracks cd_X6_showCracks rfl rfl ⟨rfl, rfl⟩ ⟨Nat.le_of_ble_eq_true rfl, Nat.le_of_ble_eq_true rfl⟩ hK hP hD hS (pm3_1 _ _ _) 0 rfl rfl rfl rfl hl rfl (Nat.le_of_ble_eq_true rfl) dX9_succeeds_209 ⟨Nat.le_of_ble_eq_true rfl, Nat.le_of_ble_eq_true rfl⟩ (fun v w h => by rw [h.2]; exact f_stx bd ta _ _ _) (fun v w1 H locs hZ hP hD hS => ?_)
      obtain ⟨rfl, rfl⟩ := hZ
      have hP : va_P g vwCl ([xoC x (ta 0) (aj 0) (me 0) sl sv (ad 0) (bd 0)] ++ (stW bd ((aShow T ((g1 / 1000) % 100) ((g1 / 10) % 100)).2) τ ++ juW aj J τ)) H := hP.pm (pm3_1 _ _ _).symm
      have hD : va_D A ([xoC x (ta 0) (aj 0) (me 0) sl sv (ad 0) (bd 0)] ++ (stW bd ((aShow T ((g1 / 1000) % 100) ((g1 / 10) % 100)).2) τ ++ juW aj J τ)) := hD.pm (pm3_1 _ _ _).symm
      have hP_x := va_left hP
      have hP_t := va_left (va_right hP)
      have hP_j := va_right (va_right hP)
      refine tl_some ?_
      have hra := aShow_r hT ((g1 / 1000) % 100) ((g1 / 10) % 100)
      refine zi_if_lt (tgt := 219) hx hb ⟨by omega, by omega⟩ dX9_succeeds_212 (by decide) (fun c_10 => ?_) (fun c_10 => ?_)
      · have _ := c_10
        refine lv_iconst (v := iI 0) hx hb dX9_succeeds_219 (by decide) ?_
        exact rw_zret hx hb hr hlocks hP hS ((by (have hq : qCmd T g1 = (false, (aShow T ((g1 / 1000) % 100) ((g1 / 10) % 100)).2) := (by unfold qCmd; rw [if_neg (by omega), if_neg (by omega), if_neg (by omega), if_neg (by omega), if_pos (by omega), if_pos (by omega)]; exact (by unfold qA; rw [decide_eq_false (by omega)]))); rw [hq]; exact ⟨⟨rfl, _, hjb, hjs, rfl⟩, false, rfl⟩)) dX9_succeeds_220
      · have _ := c_10
        refine lv_iconst (v := iI 1) hx hb dX9_succeeds_215 (by decide) ?_
        refine lv_goto (tgt := 220) hx hb dX9_succeeds_216 (by decide) ?_
        exact rw_zret hx hb hr hlocks hP hS ((by (have hq : qCmd T g1 = (true, (aShow T ((g1 / 1000) % 100) ((g1 / 10) % 100)).2) := (by unfold qCmd; rw [if_neg (by omega), if_neg (by omega), if_neg (by omega), if_neg (by omega), if_pos (by omega), if_pos (by omega)]; exact (by unfold qA; rw [decide_eq_true (by omega)]))); rw [hq]; exact ⟨⟨rfl, _, hjb, hjs, rfl⟩, true, rfl⟩)) dX9_succeeds_220
  by_cases k_1_6 : (g1 / 100000) = 6
  · refine zi_tabl (tgt := 221) (x := g1 / 100000) k_1_6 hx hb ⟨by decide, by decide⟩ (v := 6) dX9_succeeds_32 (by decide) (by decide) (off := 189) (by decide +kernel) (by decide) ?_
    refine lv_iload_n hx hb dX9_succeeds_221 rfl (lv_at hl 4 rfl) ?_
    refine lv_sipush (v := iI 10000) hx hb dX9_succeeds_222 (by decide) ?_
    refine zi_rem hx hb ⟨by omega, by omega⟩ ⟨by decide, by decide⟩ dX9_succeeds_225 ?_
    refine zi_if_ne (tgt := 248) hx hb ⟨by omega, by omega⟩ dX9_succeeds_226 (by decide) (fun c_11 => ?_) (fun c_11 => ?_)
    · have _ := c_11
      refine lv_iconst (v := iI 0) hx hb dX9_succeeds_248 (by decide) ?_
      exact rw_zret hx hb hr hlocks hP hS ((by (have hq : qCmd T g1 = (false, T) := (by unfold qCmd; rw [if_neg (by omega), if_neg (by omega), if_neg (by omega), if_neg (by omega), if_neg (by omega), if_pos (by omega), if_neg (by omega)])); rw [hq]; exact ⟨⟨rfl, _, hjb, hjs, rfl⟩, false, rfl⟩)) dX9_succeeds_249
    · have _ := c_11
      refine lv_aload_n hx hb dX9_succeeds_229 rfl (lv_at hl 3 rfl) ?_
      refine va_get (D := g) (ci := 9) (v := Value.ref (aj 0)) (C := RX9) (T := TX9) (N := 7) hx hb hts in_X9_succeeds_X9 hown hK.1 hP_x 0 (rfl) rfl 1 (by decide) (hts _ (List.mem_of_getElem? (i := 3) rfl) : (Cond.fieldLink RX9 19 "CordSeals" "judge" "LCordSeals$Judge;").before _ s = true) (fun _ h9 => h9) rfl dX9_succeeds_230 ?_
      refine lv_aload_n hx hb dX9_succeeds_233 rfl (lv_at hl 3 rfl) ?_
      refine va_get (D := g) (ci := 9) (v := Value.ref (bd 0)) (C := RX9) (T := TX9) (N := 7) hx hb hts in_X9_succeeds_X9 hown hK.1 hP_x 0 (rfl) rfl 6 (by decide) (hts _ (List.mem_of_getElem? (i := 2) rfl) : (Cond.fieldLink RX9 45 "CordSeals" "trial" "LCordSeals$State;").before _ s = true) (fun _ h9 => h9) rfl dX9_succeeds_234 ?_
      refine lv_iload_n hx hb dX9_succeeds_237 rfl (lv_at hl 2 rfl) ?_
      refine rq_V (As := [Value.ref (bd 0), Value.int (iI ((g1 / 10000) % 10))]) (rest := []) ⟨hx, hb, hml, hown, hts⟩ (c_X1_sortShelf l g τ bd aj T J hT hjb hjs ((g1 / 10000) % 10) ⟨by omega, by omega⟩) gX9_succeeds_X1_sortShelf cd_X1_sortShelf rfl rfl ⟨rfl, rfl⟩ ⟨Nat.le_of_ble_eq_true rfl, Nat.le_of_ble_eq_true rfl⟩ hK hP hD hS (pm3_21 _ _ _) 0 rfl rfl rfl rfl hl rfl (Nat.le_of_ble_eq_true rfl) dX9_succeeds_238 ⟨Nat.le_of_ble_eq_true rfl, Nat.le_of_ble_eq_true rfl⟩ (fun v w h => by rw [h.2]; exact f_ju2 aj bd _ _ _ _ _) (fun v w1 H locs hZ hP hD hS => ?_)
      rw [(aSort_eq hT J ((g1 / 10000) % 10)).1, (aSort_eq hT J ((g1 / 10000) % 10)).2] at hZ
      obtain ⟨rfl, rfl⟩ := hZ
      have hP : va_P g vwCl ([xoC x (ta 0) (aj 0) (me 0) sl sv (ad 0) (bd 0)] ++ (stW bd ((aSrt T ((g1 / 10000) % 10)).2) τ ++ juW aj ((aSort T J ((g1 / 10000) % 10)).2.2) τ)) H := hP.pm (pm3_21 _ _ _).symm
      have hD : va_D A ([xoC x (ta 0) (aj 0) (me 0) sl sv (ad 0) (bd 0)] ++ (stW bd ((aSrt T ((g1 / 10000) % 10)).2) τ ++ juW aj ((aSort T J ((g1 / 10000) % 10)).2.2) τ)) := hD.pm (pm3_21 _ _ _).symm
      have hP_x := va_left hP
      have hP_t := va_left (va_right hP)
      have hP_j := va_right (va_right hP)
      refine tl_some ?_
      have hra := aSrt_r hT ((g1 / 10000) % 10)
      refine zi_if_lt (tgt := 248) hx hb ⟨by omega, by omega⟩ dX9_succeeds_241 (by decide) (fun c_12 => ?_) (fun c_12 => ?_)
      · have _ := c_12
        refine lv_iconst (v := iI 0) hx hb dX9_succeeds_248 (by decide) ?_
        exact rw_zret hx hb hr hlocks hP hS ((by (have hq : qCmd T g1 = (false, (aSrt T ((g1 / 10000) % 10)).2) := (by unfold qCmd; rw [if_neg (by omega), if_neg (by omega), if_neg (by omega), if_neg (by omega), if_neg (by omega), if_pos (by omega), if_pos (by omega)]; exact (by rw [aSrt_rs, decide_eq_false (by have := aSrt_0 (R := T) (g1 / 10000 % 10); omega)]))); rw [hq]; exact ⟨⟨rfl, _, (aSort_J hT (g1 / 10000 % 10) hjb hjs).1, (aSort_J hT (g1 / 10000 % 10) hjb hjs).2, rfl⟩, false, rfl⟩)) dX9_succeeds_249
      · have _ := c_12
        refine lv_iconst (v := iI 1) hx hb dX9_succeeds_244 (by decide) ?_
        refine lv_goto (tgt := 249) hx hb dX9_succeeds_245 (by decide) ?_
        exact rw_zret hx hb hr hlocks hP hS ((by (have hq : qCmd T g1 = (true, (aSrt T ((g1 / 10000) % 10)).2) := (by unfold qCmd; rw [if_neg (by omega), if_neg (by omega), if_neg (by omega), if_neg (by omega), if_neg (by omega), if_pos (by omega), if_pos (by omega)]; exact (by rw [aSrt_rs, decide_eq_true (by have := aSrt_0 (R := T) (g1 / 10000 % 10); omega)]))); rw [hq]; exact ⟨⟨rfl, _, (aSort_J hT (g1 / 10000 % 10) hjb hjs).1, (aSort_J hT (g1 / 10000 % 10) hjb hjs).2, rfl⟩, true, rfl⟩)) dX9_succeeds_249
  by_cases k_1_7 : (g1 / 100000) = 7
  · refine zi_tabl (tgt := 250) (x := g1 / 100000) k_1_7 hx hb ⟨by decide, by decide⟩ (v := 7) dX9_succeeds_32 (by decide) (by decide) (off := 218) (by decide +kernel) (by decide) ?_
    refine lv_iload_n hx hb dX9_succeeds_250 rfl (lv_at hl 4 rfl) ?_
    refine lv_bipush (v := iI 100) hx hb dX9_succeeds_251 (by decide) ?_
    refine zi_rem hx hb ⟨by omega, by omega⟩ ⟨by decide, by decide⟩ dX9_succeeds_253 ?_
    refine zi_if_ne (tgt := 279) hx hb ⟨by omega, by omega⟩ dX9_succeeds_254 (by decide) (fun c_13 => ?_) (fun c_13 => ?_)
    · have _ := c_13
      refine lv_iconst (v := iI 0) hx hb dX9_succeeds_279 (by decide) ?_
      exact rw_zret hx hb hr hlocks hP hS ((by (have hq : qCmd T g1 = (false, T) := (by unfold qCmd; rw [if_neg (by omega), if_neg (by omega), if_neg (by omega), if_neg (by omega), if_neg (by omega), if_neg (by omega), if_pos (by omega), if_neg (by omega)])); rw [hq]; exact ⟨⟨rfl, _, hjb, hjs, rfl⟩, false, rfl⟩)) dX9_succeeds_280
    · have _ := c_13
      refine lv_aload_n hx hb dX9_succeeds_257 rfl (lv_at hl 3 rfl) ?_
      refine va_get (D := g) (ci := 9) (v := Value.ref (bd 0)) (C := RX9) (T := TX9) (N := 7) hx hb hts in_X9_succeeds_X9 hown hK.1 hP_x 0 (rfl) rfl 6 (by decide) (hts _ (List.mem_of_getElem? (i := 2) rfl) : (Cond.fieldLink RX9 45 "CordSeals" "trial" "LCordSeals$State;").before _ s = true) (fun _ h9 => h9) rfl dX9_succeeds_258 ?_
      refine lv_iload_n hx hb dX9_succeeds_261 rfl (lv_at hl 2 rfl) ?_
      refine lv_iload_n hx hb dX9_succeeds_262 rfl (lv_at hl 4 rfl) ?_
      refine lv_bipush (v := iI 100) hx hb dX9_succeeds_263 (by decide) ?_
      refine zi_div hx hb ⟨by omega, by omega⟩ ⟨by decide, by decide⟩ dX9_succeeds_265 ?_
      refine lv_bipush (v := iI 100) hx hb dX9_succeeds_266 (by decide) ?_
      refine zi_rem hx hb ⟨by omega, by omega⟩ ⟨by decide, by decide⟩ dX9_succeeds_268 ?_
      refine rq_V (As := [Value.int (iI ((g1 / 10000) % 10)), Value.int (iI ((g1 / 100) % 100))]) (rest := []) ⟨hx, hb, hml, hown, hts⟩ (c_X6_change l g τ bd T hT ((g1 / 10000) % 10) ⟨by omega, by omega⟩ ((g1 / 100) % 100) ⟨by omega, by omega⟩) gX9_succeeds_X6_change cd_X6_change rfl rfl ⟨rfl, rfl⟩ ⟨Nat.le_of_ble_eq_true rfl, Nat.le_of_ble_eq_true rfl⟩ hK hP hD hS (pm3_1 _ _ _) 0 rfl rfl rfl rfl hl rfl (Nat.le_of_ble_eq_true rfl) dX9_succeeds_269 ⟨Nat.le_of_ble_eq_true rfl, Nat.le_of_ble_eq_true rfl⟩ (fun v w h => by rw [h.2]; exact f_stx bd ta _ _ _) (fun v w1 H locs hZ hP hD hS => ?_)
      obtain ⟨rfl, rfl⟩ := hZ
      have hP : va_P g vwCl ([xoC x (ta 0) (aj 0) (me 0) sl sv (ad 0) (bd 0)] ++ (stW bd ((aSet T ((g1 / 10000) % 10) ((g1 / 100) % 100)).2) τ ++ juW aj J τ)) H := hP.pm (pm3_1 _ _ _).symm
      have hD : va_D A ([xoC x (ta 0) (aj 0) (me 0) sl sv (ad 0) (bd 0)] ++ (stW bd ((aSet T ((g1 / 10000) % 10) ((g1 / 100) % 100)).2) τ ++ juW aj J τ)) := hD.pm (pm3_1 _ _ _).symm
      have hP_x := va_left hP
      have hP_t := va_left (va_right hP)
      have hP_j := va_right (va_right hP)
      refine tl_some ?_
      have hra := aSet_r hT ((g1 / 10000) % 10) ((g1 / 100) % 100)
      refine zi_if_lt (tgt := 279) hx hb ⟨by omega, by omega⟩ dX9_succeeds_272 (by decide) (fun c_14 => ?_) (fun c_14 => ?_)
      · have _ := c_14
        refine lv_iconst (v := iI 0) hx hb dX9_succeeds_279 (by decide) ?_
        exact rw_zret hx hb hr hlocks hP hS ((by (have hq : qCmd T g1 = (false, (aSet T ((g1 / 10000) % 10) ((g1 / 100) % 100)).2) := (by unfold qCmd; rw [if_neg (by omega), if_neg (by omega), if_neg (by omega), if_neg (by omega), if_neg (by omega), if_neg (by omega), if_pos (by omega), if_pos (by omega)]; exact (by unfold qA; rw [decide_eq_false (by omega)]))); rw [hq]; exact ⟨⟨rfl, _, hjb, hjs, rfl⟩, false, rfl⟩)) dX9_succeeds_280
      · have _ := c_14
        refine lv_iconst (v := iI 1) hx hb dX9_succeeds_275 (by decide) ?_
        refine lv_goto (tgt := 280) hx hb dX9_succeeds_276 (by decide) ?_
        exact rw_zret hx hb hr hlocks hP hS ((by (have hq : qCmd T g1 = (true, (aSet T ((g1 / 10000) % 10) ((g1 / 100) % 100)).2) := (by unfold qCmd; rw [if_neg (by omega), if_neg (by omega), if_neg (by omega), if_neg (by omega), if_neg (by omega), if_neg (by omega), if_pos (by omega), if_pos (by omega)]; exact (by unfold qA; rw [decide_eq_true (by omega)]))); rw [hq]; exact ⟨⟨rfl, _, hjb, hjs, rfl⟩, true, rfl⟩)) dX9_succeeds_280
  by_cases k_1_8 : (g1 / 100000) = 8
  · refine zi_tabl (tgt := 281) (x := g1 / 100000) k_1_8 hx hb ⟨by decide, by decide⟩ (v := 8) dX9_succeeds_32 (by decide) (by decide) (off := 249) (by decide +kernel) (by decide) ?_
    refine lv_iload_n hx hb dX9_succeeds_281 rfl (lv_at hl 4 rfl) ?_
    refine lv_bipush (v := iI 100) hx hb dX9_succeeds_282 (by decide) ?_
    refine zi_div hx hb ⟨by omega, by omega⟩ ⟨by decide, by decide⟩ dX9_succeeds_284 ?_
    refine lv_sipush (v := iI 1000) hx hb dX9_succeeds_285 (by decide) ?_
    refine zi_rem hx hb ⟨by omega, by omega⟩ ⟨by decide, by decide⟩ dX9_succeeds_288 ?_
    refine zi_if_ne (tgt := 314) hx hb ⟨by omega, by omega⟩ dX9_succeeds_289 (by decide) (fun c_15 => ?_) (fun c_15 => ?_)
    · have _ := c_15
      refine lv_iconst (v := iI 0) hx hb dX9_succeeds_314 (by decide) ?_
      exact rw_zret hx hb hr hlocks hP hS ((by (have hq : qCmd T g1 = (false, T) := (by unfold qCmd; rw [if_neg (by omega), if_neg (by omega), if_neg (by omega), if_neg (by omega), if_neg (by omega), if_neg (by omega), if_neg (by omega), if_pos (by omega)]; exact (by rw [decide_eq_false (by omega)]))); rw [hq]; exact ⟨⟨rfl, _, hjb, hjs, rfl⟩, false, rfl⟩)) dX9_succeeds_315
    · have _ := c_15
      refine lv_aload_n hx hb dX9_succeeds_292 rfl (lv_at hl 3 rfl) ?_
      refine va_get (D := g) (ci := 9) (v := Value.ref (aj 0)) (C := RX9) (T := TX9) (N := 7) hx hb hts in_X9_succeeds_X9 hown hK.1 hP_x 0 (rfl) rfl 1 (by decide) (hts _ (List.mem_of_getElem? (i := 3) rfl) : (Cond.fieldLink RX9 19 "CordSeals" "judge" "LCordSeals$Judge;").before _ s = true) (fun _ h9 => h9) rfl dX9_succeeds_293 ?_
      refine lv_aload_n hx hb dX9_succeeds_296 rfl (lv_at hl 3 rfl) ?_
      refine va_get (D := g) (ci := 9) (v := Value.ref (bd 0)) (C := RX9) (T := TX9) (N := 7) hx hb hts in_X9_succeeds_X9 hown hK.1 hP_x 0 (rfl) rfl 6 (by decide) (hts _ (List.mem_of_getElem? (i := 2) rfl) : (Cond.fieldLink RX9 45 "CordSeals" "trial" "LCordSeals$State;").before _ s = true) (fun _ h9 => h9) rfl dX9_succeeds_297 ?_
      refine rq_V (As := [Value.ref (bd 0)]) (rest := []) ⟨hx, hb, hml, hown, hts⟩ (c_X1_fakesIn l g τ bd aj T J hT hjb hjs) gX9_succeeds_X1_fakesIn cd_X1_fakesIn rfl rfl ⟨rfl, rfl⟩ ⟨Nat.le_of_ble_eq_true rfl, Nat.le_of_ble_eq_true rfl⟩ hK hP hD hS (pm3_21 _ _ _) 0 rfl rfl rfl rfl hl rfl (Nat.le_of_ble_eq_true rfl) dX9_succeeds_300 ⟨Nat.le_of_ble_eq_true rfl, Nat.le_of_ble_eq_true rfl⟩ (fun v w h => by rw [h.2]; exact f_ju aj bd _ _ _ _) (fun v w1 H locs hZ hP hD hS => ?_)
      obtain ⟨rfl, rfl⟩ := hZ
      have hP : va_P g vwCl ([xoC x (ta 0) (aj 0) (me 0) sl sv (ad 0) (bd 0)] ++ (stW bd T τ ++ juW aj (seeJ T J) τ)) H := hP.pm (pm3_21 _ _ _).symm
      have hD : va_D A ([xoC x (ta 0) (aj 0) (me 0) sl sv (ad 0) (bd 0)] ++ (stW bd T τ ++ juW aj (seeJ T J) τ)) := hD.pm (pm3_21 _ _ _).symm
      obtain ⟨J1, hjb1, hjs1, hse1, hje⟩ : ∃ J1, HB J1 ∧ JSp J1 ∧ SEE T J1 6 ∧ seeJ T J = J1 := ⟨_, (see_ok hT hjb hjs).1, (see_ok hT hjb hjs).2, SEE_see hT J, rfl⟩
      rw [hje] at hP hD ⊢
      have hP_x := va_left hP
      have hP_t := va_left (va_right hP)
      have hP_j := va_right (va_right hP)
      refine tl_some ?_
      refine cv_i (y := iI (rFks T (T 10 0).toNat)) (congrArg iI (jF_eq hT hse1)) ?_
      have hfk1 := rFks_b T (T 10 0).toNat
      refine lv_iload_n hx hb dX9_succeeds_303 rfl (lv_at hl 4 rfl) ?_
      refine lv_bipush (v := iI 100) hx hb dX9_succeeds_304 (by decide) ?_
      refine zi_rem hx hb ⟨by omega, by omega⟩ ⟨by decide, by decide⟩ dX9_succeeds_306 ?_
      refine zi_icmp_gt (tgt := 314) hx hb ⟨by omega, by omega⟩ ⟨by omega, by omega⟩ dX9_succeeds_307 (by decide) (fun c_16 => ?_) (fun c_16 => ?_)
      · have _ := c_16
        refine lv_iconst (v := iI 0) hx hb dX9_succeeds_314 (by decide) ?_
        exact rw_zret hx hb hr hlocks hP hS ((by (have hq : qCmd T g1 = (false, T) := (by unfold qCmd; rw [if_neg (by omega), if_neg (by omega), if_neg (by omega), if_neg (by omega), if_neg (by omega), if_neg (by omega), if_neg (by omega), if_pos (by omega)]; exact (by rw [decide_eq_false (by omega)]))); rw [hq]; exact ⟨⟨rfl, _, hjb1, hjs1, rfl⟩, false, rfl⟩)) dX9_succeeds_315
      · have _ := c_16
        refine lv_iconst (v := iI 1) hx hb dX9_succeeds_310 (by decide) ?_
        refine lv_goto (tgt := 315) hx hb dX9_succeeds_311 (by decide) ?_
        exact rw_zret hx hb hr hlocks hP hS ((by (have hq : qCmd T g1 = (true, T) := (by unfold qCmd; rw [if_neg (by omega), if_neg (by omega), if_neg (by omega), if_neg (by omega), if_neg (by omega), if_neg (by omega), if_neg (by omega), if_pos (by omega)]; exact (by rw [decide_eq_true (by omega)]))); rw [hq]; exact ⟨⟨rfl, _, hjb1, hjs1, rfl⟩, true, rfl⟩)) dX9_succeeds_315
  by_cases k_1_9 : (g1 / 100000) = 9
  · refine zi_tabl (tgt := 316) (x := g1 / 100000) k_1_9 hx hb ⟨by decide, by decide⟩ (v := 9) dX9_succeeds_32 (by decide) (by decide) (off := 284) (by decide +kernel) (by decide) ?_
    refine lv_iload_n hx hb dX9_succeeds_316 rfl (lv_at hl 4 rfl) ?_
    refine lv_bipush (v := iI 10) hx hb dX9_succeeds_317 (by decide) ?_
    refine zi_div hx hb ⟨by omega, by omega⟩ ⟨by decide, by decide⟩ dX9_succeeds_319 ?_
    refine lv_bipush (v := iI 100) hx hb dX9_succeeds_320 (by decide) ?_
    refine zi_rem hx hb ⟨by omega, by omega⟩ ⟨by decide, by decide⟩ dX9_succeeds_322 ?_
    refine zi_if_ne (tgt := 342) hx hb ⟨by omega, by omega⟩ dX9_succeeds_323 (by decide) (fun c_17 => ?_) (fun c_17 => ?_)
    · have _ := c_17
      refine lv_iconst (v := iI 0) hx hb dX9_succeeds_342 (by decide) ?_
      exact rw_zret hx hb hr hlocks hP hS ((by (have hq : qCmd T g1 = (false, T) := (by unfold qCmd; rw [if_neg (by omega), if_neg (by omega), if_neg (by omega), if_neg (by omega), if_neg (by omega), if_neg (by omega), if_neg (by omega), if_neg (by omega), if_pos (by omega)]; exact (by rw [decide_eq_false (by omega)]))); rw [hq]; exact ⟨⟨rfl, _, hjb, hjs, rfl⟩, false, rfl⟩)) dX9_succeeds_343
    · have _ := c_17
      refine lv_aload_n hx hb dX9_succeeds_326 rfl (lv_at hl 3 rfl) ?_
      refine lv_iload_n hx hb dX9_succeeds_327 rfl (lv_at hl 1 rfl) ?_
      refine lv_iload_n hx hb dX9_succeeds_328 rfl (lv_at hl 4 rfl) ?_
      refine lv_bipush (v := iI 10) hx hb dX9_succeeds_329 (by decide) ?_
      refine zi_rem hx hb ⟨by omega, by omega⟩ ⟨by decide, by decide⟩ dX9_succeeds_331 ?_
      refine rq_V (As := [Value.int (iI ((g1 / 1000) % 100)), Value.int (iI (g1 % 10))]) (rest := []) ⟨hx, hb, hml, hown, hts⟩ (c_X9_isFakeBy l g τ x sl sv ta aj me ad bd T hT J hjb hjs ((g1 / 1000) % 100) ⟨by omega, by omega⟩ (g1 % 10) ⟨by omega, by omega⟩) gX9_succeeds_X9_isFakeBy cd_X9_isFakeBy rfl rfl ⟨rfl, rfl⟩ ⟨Nat.le_of_ble_eq_true rfl, Nat.le_of_ble_eq_true rfl⟩ hK hP hD hS (pm3_012 _ _ _) 0 rfl rfl rfl rfl hl rfl (Nat.le_of_ble_eq_true rfl) dX9_succeeds_332 ⟨Nat.le_of_ble_eq_true rfl, Nat.le_of_ble_eq_true rfl⟩ (fun v w h => by obtain ⟨-, J9, -, -, rfl⟩ := h; exact f_xtj _ _ _ _ _ _ _ _) (fun v w1 H locs hZ hP hD hS => ?_)
      obtain ⟨rfl, J1, hjb1, hjs1, rfl⟩ := hZ
      have hP : va_P g vwCl ([xoC x (ta 0) (aj 0) (me 0) sl sv (ad 0) (bd 0)] ++ (stW bd T τ ++ juW aj J1 τ)) H := hP.pm (pm3_012 _ _ _).symm
      have hD : va_D A ([xoC x (ta 0) (aj 0) (me 0) sl sv (ad 0) (bd 0)] ++ (stW bd T τ ++ juW aj J1 τ)) := hD.pm (pm3_012 _ _ _).symm
      have hP_x := va_left hP
      have hP_t := va_left (va_right hP)
      have hP_j := va_right (va_right hP)
      refine tl_some ?_
      refine zb_if_eq (tgt := 342) hx hb dX9_succeeds_335 (by decide) (fun c_18 => ?_) (fun c_18 => ?_)
      · have cd_c_18 := of_decide_eq_false c_18
        refine lv_iconst (v := iI 0) hx hb dX9_succeeds_342 (by decide) ?_
        exact rw_zret hx hb hr hlocks hP hS ((by (have hq : qCmd T g1 = (false, T) := (by unfold qCmd; rw [if_neg (by omega), if_neg (by omega), if_neg (by omega), if_neg (by omega), if_neg (by omega), if_neg (by omega), if_neg (by omega), if_neg (by omega), if_pos (by omega)]; exact (by rw [decide_eq_false (by omega)]))); rw [hq]; exact ⟨⟨rfl, _, hjb1, hjs1, rfl⟩, false, rfl⟩)) dX9_succeeds_343
      · have cd_c_18 := of_decide_eq_true c_18
        refine lv_iconst (v := iI 1) hx hb dX9_succeeds_338 (by decide) ?_
        refine lv_goto (tgt := 343) hx hb dX9_succeeds_339 (by decide) ?_
        exact rw_zret hx hb hr hlocks hP hS ((by (have hq : qCmd T g1 = (true, T) := (by unfold qCmd; rw [if_neg (by omega), if_neg (by omega), if_neg (by omega), if_neg (by omega), if_neg (by omega), if_neg (by omega), if_neg (by omega), if_neg (by omega), if_pos (by omega)]; exact (by rw [decide_eq_true (by omega)]))); rw [hq]; exact ⟨⟨rfl, _, hjb1, hjs1, rfl⟩, true, rfl⟩)) dX9_succeeds_343
  refine zi_tablD (x := g1 / 100000) (tgt := 344) ⟨by omega, by omega⟩ hx hb dX9_succeeds_32 (by omega) (by decide) ?_
  refine lv_iconst (v := iI 0) hx hb dX9_succeeds_344 (by decide) ?_
  exact rw_zret hx hb hr hlocks hP hS ((by (have hq : qCmd T g1 = (false, T) := (by unfold qCmd; rw [if_neg (by omega), if_neg (by omega), if_neg (by omega), if_neg (by omega), if_neg (by omega), if_neg (by omega), if_neg (by omega), if_neg (by omega), if_neg (by omega)])); rw [hq]; exact ⟨⟨rfl, _, hjb, hjs, rfl⟩, false, rfl⟩)) dX9_succeeds_345

theorem cd_X9_takeTurn : cd yX9_takeTurn 2 := by decide +kernel
theorem in_X9_takeTurn_X9 : ∀ w ∈ wsX90, w ∈ wsX9_takeTurn := by decide +kernel
set_option maxHeartbeats 4000000 in
set_option maxRecDepth 100000 in
theorem c_X9_takeTurn (l : Launch) (g : va_G) (τ : Nat → ClassId) (x sl sv : Nat) (ta aj me ad bd : Nat → Nat) (T : Nat → Nat → Int) (hT : SI T) (J : Nat → Nat → Int) (hjb : HB J) (hjs : JSp J) (r1 : Int) (hr1 : 0 ≤ r1 ∧ r1 < 2147483648)  : Met l yX9_takeTurn wsX9_takeTurn { frames := 6, cells := 0, slots := 0, locals := 129 } (va_Pc [Value.ref x, Value.int (iI (r1 % 8)), Value.int (iI (r1 / 8))] (rwW g τ ([xoC x (ta 0) (aj 0) (me 0) sl sv (ad 0) (bd 0)] ++ (stW bd T τ ++ juW aj J τ)))) (rwQ g (fun v w => ∃ (k9 : Int) (J2 : Nat → Nat → Int), v = some (Value.int (iI k9)) ∧ HB J2 ∧ JSp J2 ∧ w = [xoC x (ta 0) (aj 0) (me 0) sl sv (ad 0) (bd 0)] ++ (stW bd (qStir T r1) τ ++ juW aj J2 τ)) (inW ([xoC x (ta 0) (aj 0) (me 0) sl sv (ad 0) (bd 0)] ++ (stW bd T τ ++ juW aj J τ)))) 0 0 (inW ([xoC x (ta 0) (aj 0) (me 0) sl sv (ad 0) (bd 0)] ++ (stW bd T τ ++ juW aj J τ))) := by
  have hB := hT.hB
  have hr0 := hT.r
  have hd0 := hT.d
  have hs0 := hT.s
  have hN := hT.hN
  refine rwMet (cc := cX9_takeTurn) (maxL := 3) (ret := (some .int)) (lv := [(0, Value.ref x), (1, Value.int (iI (r1 % 8))), (2, Value.int (iI (r1 / 8)))]) (by decide) rfl (Nat.le_of_ble_eq_true rfl) rfl ?_
  intro p e s m below meth c hx hb hr hml hts hown hlocks A H hP hD hS hK ls hl
  have hP_x := va_left hP
  have hP_t := va_left (va_right hP)
  have hP_j := va_right (va_right hP)
  refine lv_iload_n hx hb dX9_takeTurn_0 rfl (lv_at hl 1 rfl) ?_
  by_cases k_1_2 : (r1 % 8) = 2
  · refine zi_tabl (tgt := 40) (x := r1 % 8) k_1_2 hx hb ⟨by decide, by decide⟩ (v := 2) dX9_takeTurn_1 (by decide) (by decide) (off := 39) (by decide +kernel) (by decide) ?_
    refine lv_aload_n hx hb dX9_takeTurn_40 rfl (lv_at hl 0 rfl) ?_
    refine va_get (D := g) (ci := 9) (v := Value.ref (bd 0)) (C := RX9) (T := TX9) (N := 7) hx hb hts in_X9_takeTurn_X9 hown hK.1 hP_x 0 (rfl) rfl 6 (by decide) (hts _ (List.mem_of_getElem? (i := 1) rfl) : (Cond.fieldLink RX9 45 "CordSeals" "trial" "LCordSeals$State;").before _ s = true) (fun _ h9 => h9) rfl dX9_takeTurn_41 ?_
    refine lv_iload_n hx hb dX9_takeTurn_44 rfl (lv_at hl 2 rfl) ?_
    refine lv_bipush (v := iI 10) hx hb dX9_takeTurn_45 (by decide) ?_
    refine zi_rem hx hb ⟨by omega, by omega⟩ ⟨by decide, by decide⟩ dX9_takeTurn_47 ?_
    refine lv_sipush (v := iI 1000) hx hb dX9_takeTurn_48 (by decide) ?_
    refine lv_iload_n hx hb dX9_takeTurn_51 rfl (lv_at hl 2 rfl) ?_
    refine lv_bipush (v := iI 16) hx hb dX9_takeTurn_52 (by decide) ?_
    refine zi_div hx hb ⟨by omega, by omega⟩ ⟨by decide, by decide⟩ dX9_takeTurn_54 ?_
    refine lv_sipush (v := iI 1000) hx hb dX9_takeTurn_55 (by decide) ?_
    refine zi_rem hx hb ⟨by omega, by omega⟩ ⟨by decide, by decide⟩ dX9_takeTurn_58 ?_
    refine zi_add hx hb dX9_takeTurn_59 ?_
    refine rq_V (As := [Value.int (iI ((r1 / 8) % 10)), Value.int (iI (1000 + (((r1 / 8) / 16) % 1000)))]) (rest := []) ⟨hx, hb, hml, hown, hts⟩ (c_X6_addCrack l g τ bd T hT ((r1 / 8) % 10) ⟨by omega, by omega⟩ (1000 + (((r1 / 8) / 16) % 1000)) ⟨by omega, by omega⟩) gX9_takeTurn_X6_addCrack cd_X6_addCrack rfl rfl ⟨rfl, rfl⟩ ⟨Nat.le_of_ble_eq_true rfl, Nat.le_of_ble_eq_true rfl⟩ hK hP hD hS (pm3_1 _ _ _) 0 rfl rfl rfl rfl hl rfl (Nat.le_of_ble_eq_true rfl) dX9_takeTurn_60 ⟨Nat.le_of_ble_eq_true rfl, Nat.le_of_ble_eq_true rfl⟩ (fun v w h => by rw [h.2]; exact f_stx bd ta _ _ _) (fun v w1 H locs hZ hP hD hS => ?_)
    obtain ⟨rfl, rfl⟩ := hZ
    have hP : va_P g vwCl ([xoC x (ta 0) (aj 0) (me 0) sl sv (ad 0) (bd 0)] ++ (stW bd ((aCrack T ((r1 / 8) % 10) (1000 + (((r1 / 8) / 16) % 1000))).2) τ ++ juW aj J τ)) H := hP.pm (pm3_1 _ _ _).symm
    have hD : va_D A ([xoC x (ta 0) (aj 0) (me 0) sl sv (ad 0) (bd 0)] ++ (stW bd ((aCrack T ((r1 / 8) % 10) (1000 + (((r1 / 8) / 16) % 1000))).2) τ ++ juW aj J τ)) := hD.pm (pm3_1 _ _ _).symm
    have hP_x := va_left hP
    have hP_t := va_left (va_right hP)
    have hP_j := va_right (va_right hP)
    refine tl_some ?_
    have hra := aCrack_r hT ((r1 / 8) % 10) (1000 + (((r1 / 8) / 16) % 1000))
    exact rw_iret hx hb hr hlocks hP hS ((by (have hq : qStir T r1 = (aCrack T ((r1 / 8) % 10) (1000 + (((r1 / 8) / 16) % 1000))).2 := (by unfold qStir; rw [if_neg (by omega), if_pos (by omega)])); rw [hq]; exact ⟨_, _, rfl, hjb, hjs, rfl⟩)) dX9_takeTurn_63
  by_cases k_1_3 : (r1 % 8) = 3
  · refine zi_tabl (tgt := 64) (x := r1 % 8) k_1_3 hx hb ⟨by decide, by decide⟩ (v := 3) dX9_takeTurn_1 (by decide) (by decide) (off := 63) (by decide +kernel) (by decide) ?_
    refine lv_aload_n hx hb dX9_takeTurn_64 rfl (lv_at hl 0 rfl) ?_
    refine va_get (D := g) (ci := 9) (v := Value.ref (bd 0)) (C := RX9) (T := TX9) (N := 7) hx hb hts in_X9_takeTurn_X9 hown hK.1 hP_x 0 (rfl) rfl 6 (by decide) (hts _ (List.mem_of_getElem? (i := 1) rfl) : (Cond.fieldLink RX9 45 "CordSeals" "trial" "LCordSeals$State;").before _ s = true) (fun _ h9 => h9) rfl dX9_takeTurn_65 ?_
    refine lv_iload_n hx hb dX9_takeTurn_68 rfl (lv_at hl 2 rfl) ?_
    refine lv_bipush (v := iI 24) hx hb dX9_takeTurn_69 (by decide) ?_
    refine zi_rem hx hb ⟨by omega, by omega⟩ ⟨by decide, by decide⟩ dX9_takeTurn_71 ?_
    refine lv_iload_n hx hb dX9_takeTurn_72 rfl (lv_at hl 2 rfl) ?_
    refine lv_bipush (v := iI 32) hx hb dX9_takeTurn_73 (by decide) ?_
    refine zi_div hx hb ⟨by omega, by omega⟩ ⟨by decide, by decide⟩ dX9_takeTurn_75 ?_
    refine lv_bipush (v := iI 16) hx hb dX9_takeTurn_76 (by decide) ?_
    refine zi_rem hx hb ⟨by omega, by omega⟩ ⟨by decide, by decide⟩ dX9_takeTurn_78 ?_
    refine rq_V (As := [Value.int (iI ((r1 / 8) % 24)), Value.int (iI (((r1 / 8) / 32) % 16))]) (rest := []) ⟨hx, hb, hml, hown, hts⟩ (c_X6_showCracks l g τ bd T hT ((r1 / 8) % 24) ⟨by omega, by omega⟩ (((r1 / 8) / 32) % 16) ⟨by omega, by omega⟩) gX9_takeTurn_X6_showCracks cd_X6_showCracks rfl rfl ⟨rfl, rfl⟩ ⟨Nat.le_of_ble_eq_true rfl, Nat.le_of_ble_eq_true rfl⟩ hK hP hD hS (pm3_1 _ _ _) 0 rfl rfl rfl rfl hl rfl (Nat.le_of_ble_eq_true rfl) dX9_takeTurn_79 ⟨Nat.le_of_ble_eq_true rfl, Nat.le_of_ble_eq_true rfl⟩ (fun v w h => by rw [h.2]; exact f_stx bd ta _ _ _) (fun v w1 H locs hZ hP hD hS => ?_)
    obtain ⟨rfl, rfl⟩ := hZ
    have hP : va_P g vwCl ([xoC x (ta 0) (aj 0) (me 0) sl sv (ad 0) (bd 0)] ++ (stW bd ((aShow T ((r1 / 8) % 24) (((r1 / 8) / 32) % 16)).2) τ ++ juW aj J τ)) H := hP.pm (pm3_1 _ _ _).symm
    have hD : va_D A ([xoC x (ta 0) (aj 0) (me 0) sl sv (ad 0) (bd 0)] ++ (stW bd ((aShow T ((r1 / 8) % 24) (((r1 / 8) / 32) % 16)).2) τ ++ juW aj J τ)) := hD.pm (pm3_1 _ _ _).symm
    have hP_x := va_left hP
    have hP_t := va_left (va_right hP)
    have hP_j := va_right (va_right hP)
    refine tl_some ?_
    have hra := aShow_r hT ((r1 / 8) % 24) (((r1 / 8) / 32) % 16)
    exact rw_iret hx hb hr hlocks hP hS ((by (have hq : qStir T r1 = (aShow T ((r1 / 8) % 24) (((r1 / 8) / 32) % 16)).2 := (by unfold qStir; rw [if_neg (by omega), if_neg (by omega), if_pos (by omega)])); rw [hq]; exact ⟨_, _, rfl, hjb, hjs, rfl⟩)) dX9_takeTurn_82
  by_cases k_1_4 : (r1 % 8) = 4
  · refine zi_tabl (tgt := 83) (x := r1 % 8) k_1_4 hx hb ⟨by decide, by decide⟩ (v := 4) dX9_takeTurn_1 (by decide) (by decide) (off := 82) (by decide +kernel) (by decide) ?_
    refine lv_aload_n hx hb dX9_takeTurn_83 rfl (lv_at hl 0 rfl) ?_
    refine va_get (D := g) (ci := 9) (v := Value.ref (bd 0)) (C := RX9) (T := TX9) (N := 7) hx hb hts in_X9_takeTurn_X9 hown hK.1 hP_x 0 (rfl) rfl 6 (by decide) (hts _ (List.mem_of_getElem? (i := 1) rfl) : (Cond.fieldLink RX9 45 "CordSeals" "trial" "LCordSeals$State;").before _ s = true) (fun _ h9 => h9) rfl dX9_takeTurn_84 ?_
    refine lv_iload_n hx hb dX9_takeTurn_87 rfl (lv_at hl 2 rfl) ?_
    refine lv_bipush (v := iI 24) hx hb dX9_takeTurn_88 (by decide) ?_
    refine zi_rem hx hb ⟨by omega, by omega⟩ ⟨by decide, by decide⟩ dX9_takeTurn_90 ?_
    refine lv_iload_n hx hb dX9_takeTurn_91 rfl (lv_at hl 2 rfl) ?_
    refine lv_bipush (v := iI 32) hx hb dX9_takeTurn_92 (by decide) ?_
    refine zi_div hx hb ⟨by omega, by omega⟩ ⟨by decide, by decide⟩ dX9_takeTurn_94 ?_
    refine lv_bipush (v := iI 6) hx hb dX9_takeTurn_95 (by decide) ?_
    refine zi_rem hx hb ⟨by omega, by omega⟩ ⟨by decide, by decide⟩ dX9_takeTurn_97 ?_
    refine rq_V (As := [Value.int (iI ((r1 / 8) % 24)), Value.int (iI (((r1 / 8) / 32) % 6))]) (rest := []) ⟨hx, hb, hml, hown, hts⟩ (c_X6_hangOn l g τ bd T hT ((r1 / 8) % 24) ⟨by omega, by omega⟩ (((r1 / 8) / 32) % 6) ⟨by omega, by omega⟩) gX9_takeTurn_X6_hangOn cd_X6_hangOn rfl rfl ⟨rfl, rfl⟩ ⟨Nat.le_of_ble_eq_true rfl, Nat.le_of_ble_eq_true rfl⟩ hK hP hD hS (pm3_1 _ _ _) 0 rfl rfl rfl rfl hl rfl (Nat.le_of_ble_eq_true rfl) dX9_takeTurn_98 ⟨Nat.le_of_ble_eq_true rfl, Nat.le_of_ble_eq_true rfl⟩ (fun v w h => by rw [h.2]; exact f_stx bd ta _ _ _) (fun v w1 H locs hZ hP hD hS => ?_)
    obtain ⟨rfl, rfl⟩ := hZ
    have hP : va_P g vwCl ([xoC x (ta 0) (aj 0) (me 0) sl sv (ad 0) (bd 0)] ++ (stW bd ((aHang T ((r1 / 8) % 24) (((r1 / 8) / 32) % 6)).2) τ ++ juW aj J τ)) H := hP.pm (pm3_1 _ _ _).symm
    have hD : va_D A ([xoC x (ta 0) (aj 0) (me 0) sl sv (ad 0) (bd 0)] ++ (stW bd ((aHang T ((r1 / 8) % 24) (((r1 / 8) / 32) % 6)).2) τ ++ juW aj J τ)) := hD.pm (pm3_1 _ _ _).symm
    have hP_x := va_left hP
    have hP_t := va_left (va_right hP)
    have hP_j := va_right (va_right hP)
    refine tl_some ?_
    have hra := aHang_r hT ((r1 / 8) % 24) (((r1 / 8) / 32) % 6)
    exact rw_iret hx hb hr hlocks hP hS ((by (have hq : qStir T r1 = (aHang T ((r1 / 8) % 24) (((r1 / 8) / 32) % 6)).2 := (by unfold qStir; rw [if_neg (by omega), if_neg (by omega), if_neg (by omega), if_pos (by omega)])); rw [hq]; exact ⟨_, _, rfl, hjb, hjs, rfl⟩)) dX9_takeTurn_101
  by_cases k_1_5 : (r1 % 8) = 5
  · refine zi_tabl (tgt := 102) (x := r1 % 8) k_1_5 hx hb ⟨by decide, by decide⟩ (v := 5) dX9_takeTurn_1 (by decide) (by decide) (off := 101) (by decide +kernel) (by decide) ?_
    refine lv_aload_n hx hb dX9_takeTurn_102 rfl (lv_at hl 0 rfl) ?_
    refine va_get (D := g) (ci := 9) (v := Value.ref (bd 0)) (C := RX9) (T := TX9) (N := 7) hx hb hts in_X9_takeTurn_X9 hown hK.1 hP_x 0 (rfl) rfl 6 (by decide) (hts _ (List.mem_of_getElem? (i := 1) rfl) : (Cond.fieldLink RX9 45 "CordSeals" "trial" "LCordSeals$State;").before _ s = true) (fun _ h9 => h9) rfl dX9_takeTurn_103 ?_
    refine lv_iload_n hx hb dX9_takeTurn_106 rfl (lv_at hl 2 rfl) ?_
    refine lv_bipush (v := iI 24) hx hb dX9_takeTurn_107 (by decide) ?_
    refine zi_rem hx hb ⟨by omega, by omega⟩ ⟨by decide, by decide⟩ dX9_takeTurn_109 ?_
    refine lv_iload_n hx hb dX9_takeTurn_110 rfl (lv_at hl 2 rfl) ?_
    refine lv_bipush (v := iI 32) hx hb dX9_takeTurn_111 (by decide) ?_
    refine zi_div hx hb ⟨by omega, by omega⟩ ⟨by decide, by decide⟩ dX9_takeTurn_113 ?_
    refine lv_bipush (v := iI 6) hx hb dX9_takeTurn_114 (by decide) ?_
    refine zi_rem hx hb ⟨by omega, by omega⟩ ⟨by decide, by decide⟩ dX9_takeTurn_116 ?_
    refine lv_iconst (v := iI 0) hx hb dX9_takeTurn_117 (by decide) ?_
    refine rq_V (As := [Value.int (iI ((r1 / 8) % 24)), Value.int (iI (((r1 / 8) / 32) % 6)), Value.int (iI 0)]) (rest := []) ⟨hx, hb, hml, hown, hts⟩ (c_X6_putOnShelf l g τ bd T hT ((r1 / 8) % 24) ⟨by omega, by omega⟩ (((r1 / 8) / 32) % 6) ⟨by omega, by omega⟩ 0 ⟨by omega, by omega⟩) gX9_takeTurn_X6_putOnShelf cd_X6_putOnShelf rfl rfl ⟨rfl, rfl⟩ ⟨Nat.le_of_ble_eq_true rfl, Nat.le_of_ble_eq_true rfl⟩ hK hP hD hS (pm3_1 _ _ _) 0 rfl rfl rfl rfl hl rfl (Nat.le_of_ble_eq_true rfl) dX9_takeTurn_118 ⟨Nat.le_of_ble_eq_true rfl, Nat.le_of_ble_eq_true rfl⟩ (fun v w h => by rw [h.2]; exact f_stx bd ta _ _ _) (fun v w1 H locs hZ hP hD hS => ?_)
    obtain ⟨rfl, rfl⟩ := hZ
    have hP : va_P g vwCl ([xoC x (ta 0) (aj 0) (me 0) sl sv (ad 0) (bd 0)] ++ (stW bd ((aShelve T ((r1 / 8) % 24) (((r1 / 8) / 32) % 6) 0).2) τ ++ juW aj J τ)) H := hP.pm (pm3_1 _ _ _).symm
    have hD : va_D A ([xoC x (ta 0) (aj 0) (me 0) sl sv (ad 0) (bd 0)] ++ (stW bd ((aShelve T ((r1 / 8) % 24) (((r1 / 8) / 32) % 6) 0).2) τ ++ juW aj J τ)) := hD.pm (pm3_1 _ _ _).symm
    have hP_x := va_left hP
    have hP_t := va_left (va_right hP)
    have hP_j := va_right (va_right hP)
    refine tl_some ?_
    have hra := aShelve_r hT ((r1 / 8) % 24) (((r1 / 8) / 32) % 6) 0
    exact rw_iret hx hb hr hlocks hP hS ((by (have hq : qStir T r1 = (aShelve T ((r1 / 8) % 24) (((r1 / 8) / 32) % 6) 0).2 := (by unfold qStir; rw [if_neg (by omega), if_neg (by omega), if_neg (by omega), if_neg (by omega), if_pos (by omega)])); rw [hq]; exact ⟨_, _, rfl, hjb, hjs, rfl⟩)) dX9_takeTurn_121
  by_cases k_1_6 : (r1 % 8) = 6
  · refine zi_tabl (tgt := 122) (x := r1 % 8) k_1_6 hx hb ⟨by decide, by decide⟩ (v := 6) dX9_takeTurn_1 (by decide) (by decide) (off := 121) (by decide +kernel) (by decide) ?_
    refine lv_aload_n hx hb dX9_takeTurn_122 rfl (lv_at hl 0 rfl) ?_
    refine va_get (D := g) (ci := 9) (v := Value.ref (bd 0)) (C := RX9) (T := TX9) (N := 7) hx hb hts in_X9_takeTurn_X9 hown hK.1 hP_x 0 (rfl) rfl 6 (by decide) (hts _ (List.mem_of_getElem? (i := 1) rfl) : (Cond.fieldLink RX9 45 "CordSeals" "trial" "LCordSeals$State;").before _ s = true) (fun _ h9 => h9) rfl dX9_takeTurn_123 ?_
    refine lv_iload_n hx hb dX9_takeTurn_126 rfl (lv_at hl 2 rfl) ?_
    refine lv_bipush (v := iI 24) hx hb dX9_takeTurn_127 (by decide) ?_
    refine zi_rem hx hb ⟨by omega, by omega⟩ ⟨by decide, by decide⟩ dX9_takeTurn_129 ?_
    refine rq_V (As := [Value.int (iI ((r1 / 8) % 24))]) (rest := []) ⟨hx, hb, hml, hown, hts⟩ (c_X6_cutOff l g τ bd T hT ((r1 / 8) % 24) ⟨by omega, by omega⟩) gX9_takeTurn_X6_cutOff cd_X6_cutOff rfl rfl ⟨rfl, rfl⟩ ⟨Nat.le_of_ble_eq_true rfl, Nat.le_of_ble_eq_true rfl⟩ hK hP hD hS (pm3_1 _ _ _) 0 rfl rfl rfl rfl hl rfl (Nat.le_of_ble_eq_true rfl) dX9_takeTurn_130 ⟨Nat.le_of_ble_eq_true rfl, Nat.le_of_ble_eq_true rfl⟩ (fun v w h => by rw [h.2]; exact f_stx bd ta _ _ _) (fun v w1 H locs hZ hP hD hS => ?_)
    obtain ⟨rfl, rfl⟩ := hZ
    have hP : va_P g vwCl ([xoC x (ta 0) (aj 0) (me 0) sl sv (ad 0) (bd 0)] ++ (stW bd ((aCut T ((r1 / 8) % 24)).2) τ ++ juW aj J τ)) H := hP.pm (pm3_1 _ _ _).symm
    have hD : va_D A ([xoC x (ta 0) (aj 0) (me 0) sl sv (ad 0) (bd 0)] ++ (stW bd ((aCut T ((r1 / 8) % 24)).2) τ ++ juW aj J τ)) := hD.pm (pm3_1 _ _ _).symm
    have hP_x := va_left hP
    have hP_t := va_left (va_right hP)
    have hP_j := va_right (va_right hP)
    refine tl_some ?_
    have hra := aCut_r hT ((r1 / 8) % 24)
    exact rw_iret hx hb hr hlocks hP hS ((by (have hq : qStir T r1 = (aCut T ((r1 / 8) % 24)).2 := (by unfold qStir; rw [if_neg (by omega), if_neg (by omega), if_neg (by omega), if_neg (by omega), if_neg (by omega), if_pos (by omega)])); rw [hq]; exact ⟨_, _, rfl, hjb, hjs, rfl⟩)) dX9_takeTurn_133
  by_cases k_1_7 : (r1 % 8) = 7
  · refine zi_tabl (tgt := 134) (x := r1 % 8) k_1_7 hx hb ⟨by decide, by decide⟩ (v := 7) dX9_takeTurn_1 (by decide) (by decide) (off := 133) (by decide +kernel) (by decide) ?_
    refine lv_aload_n hx hb dX9_takeTurn_134 rfl (lv_at hl 0 rfl) ?_
    refine va_get (D := g) (ci := 9) (v := Value.ref (aj 0)) (C := RX9) (T := TX9) (N := 7) hx hb hts in_X9_takeTurn_X9 hown hK.1 hP_x 0 (rfl) rfl 1 (by decide) (hts _ (List.mem_of_getElem? (i := 2) rfl) : (Cond.fieldLink RX9 19 "CordSeals" "judge" "LCordSeals$Judge;").before _ s = true) (fun _ h9 => h9) rfl dX9_takeTurn_135 ?_
    refine lv_aload_n hx hb dX9_takeTurn_138 rfl (lv_at hl 0 rfl) ?_
    refine va_get (D := g) (ci := 9) (v := Value.ref (bd 0)) (C := RX9) (T := TX9) (N := 7) hx hb hts in_X9_takeTurn_X9 hown hK.1 hP_x 0 (rfl) rfl 6 (by decide) (hts _ (List.mem_of_getElem? (i := 1) rfl) : (Cond.fieldLink RX9 45 "CordSeals" "trial" "LCordSeals$State;").before _ s = true) (fun _ h9 => h9) rfl dX9_takeTurn_139 ?_
    refine lv_iload_n hx hb dX9_takeTurn_142 rfl (lv_at hl 2 rfl) ?_
    refine lv_bipush (v := iI 6) hx hb dX9_takeTurn_143 (by decide) ?_
    refine zi_rem hx hb ⟨by omega, by omega⟩ ⟨by decide, by decide⟩ dX9_takeTurn_145 ?_
    refine rq_V (As := [Value.ref (bd 0), Value.int (iI ((r1 / 8) % 6))]) (rest := []) ⟨hx, hb, hml, hown, hts⟩ (c_X1_sortShelf l g τ bd aj T J hT hjb hjs ((r1 / 8) % 6) ⟨by omega, by omega⟩) gX9_takeTurn_X1_sortShelf cd_X1_sortShelf rfl rfl ⟨rfl, rfl⟩ ⟨Nat.le_of_ble_eq_true rfl, Nat.le_of_ble_eq_true rfl⟩ hK hP hD hS (pm3_21 _ _ _) 0 rfl rfl rfl rfl hl rfl (Nat.le_of_ble_eq_true rfl) dX9_takeTurn_146 ⟨Nat.le_of_ble_eq_true rfl, Nat.le_of_ble_eq_true rfl⟩ (fun v w h => by rw [h.2]; exact f_ju2 aj bd _ _ _ _ _) (fun v w1 H locs hZ hP hD hS => ?_)
    rw [(aSort_eq hT J ((r1 / 8) % 6)).1, (aSort_eq hT J ((r1 / 8) % 6)).2] at hZ
    obtain ⟨rfl, rfl⟩ := hZ
    have hP : va_P g vwCl ([xoC x (ta 0) (aj 0) (me 0) sl sv (ad 0) (bd 0)] ++ (stW bd ((aSrt T ((r1 / 8) % 6)).2) τ ++ juW aj ((aSort T J ((r1 / 8) % 6)).2.2) τ)) H := hP.pm (pm3_21 _ _ _).symm
    have hD : va_D A ([xoC x (ta 0) (aj 0) (me 0) sl sv (ad 0) (bd 0)] ++ (stW bd ((aSrt T ((r1 / 8) % 6)).2) τ ++ juW aj ((aSort T J ((r1 / 8) % 6)).2.2) τ)) := hD.pm (pm3_21 _ _ _).symm
    have hP_x := va_left hP
    have hP_t := va_left (va_right hP)
    have hP_j := va_right (va_right hP)
    refine tl_some ?_
    have hra := aSrt_r hT ((r1 / 8) % 6)
    exact rw_iret hx hb hr hlocks hP hS ((by (have hq : qStir T r1 = (aSrt T ((r1 / 8) % 6)).2 := (by unfold qStir; rw [if_neg (by omega), if_neg (by omega), if_neg (by omega), if_neg (by omega), if_neg (by omega), if_neg (by omega)]; exact aSrt_rs _ _)); rw [hq]; exact ⟨_, _, rfl, (aSort_J hT (r1 / 8 % 6) hjb hjs).1, (aSort_J hT (r1 / 8 % 6) hjb hjs).2, rfl⟩)) dX9_takeTurn_149
  refine zi_tablD (x := r1 % 8) (tgt := 150) ⟨by omega, by omega⟩ hx hb dX9_takeTurn_1 (by omega) (by decide) ?_
  refine lv_aload_n hx hb dX9_takeTurn_150 rfl (lv_at hl 0 rfl) ?_
  refine va_get (D := g) (ci := 9) (v := Value.ref (bd 0)) (C := RX9) (T := TX9) (N := 7) hx hb hts in_X9_takeTurn_X9 hown hK.1 hP_x 0 (rfl) rfl 6 (by decide) (hts _ (List.mem_of_getElem? (i := 1) rfl) : (Cond.fieldLink RX9 45 "CordSeals" "trial" "LCordSeals$State;").before _ s = true) (fun _ h9 => h9) rfl dX9_takeTurn_151 ?_
  refine lv_iload_n hx hb dX9_takeTurn_154 rfl (lv_at hl 2 rfl) ?_
  refine lv_bipush (v := iI 10) hx hb dX9_takeTurn_155 (by decide) ?_
  refine zi_rem hx hb ⟨by omega, by omega⟩ ⟨by decide, by decide⟩ dX9_takeTurn_157 ?_
  refine lv_iload_n hx hb dX9_takeTurn_158 rfl (lv_at hl 2 rfl) ?_
  refine lv_bipush (v := iI 16) hx hb dX9_takeTurn_159 (by decide) ?_
  refine zi_div hx hb ⟨by omega, by omega⟩ ⟨by decide, by decide⟩ dX9_takeTurn_161 ?_
  refine lv_iconst (v := iI 2) hx hb dX9_takeTurn_162 (by decide) ?_
  refine zi_rem hx hb ⟨by omega, by omega⟩ ⟨by decide, by decide⟩ dX9_takeTurn_163 ?_
  refine lv_iload_n hx hb dX9_takeTurn_164 rfl (lv_at hl 2 rfl) ?_
  refine lv_bipush (v := iI 32) hx hb dX9_takeTurn_165 (by decide) ?_
  refine zi_div hx hb ⟨by omega, by omega⟩ ⟨by decide, by decide⟩ dX9_takeTurn_167 ?_
  refine lv_bipush (v := iI 9) hx hb dX9_takeTurn_168 (by decide) ?_
  refine zi_rem hx hb ⟨by omega, by omega⟩ ⟨by decide, by decide⟩ dX9_takeTurn_170 ?_
  refine lv_iconst (v := iI 1) hx hb dX9_takeTurn_171 (by decide) ?_
  refine zi_sub hx hb dX9_takeTurn_172 ?_
  refine lv_iload_n hx hb dX9_takeTurn_173 rfl (lv_at hl 2 rfl) ?_
  refine lv_sipush (v := iI 512) hx hb dX9_takeTurn_174 (by decide) ?_
  refine zi_div hx hb ⟨by omega, by omega⟩ ⟨by decide, by decide⟩ dX9_takeTurn_177 ?_
  refine lv_bipush (v := iI 20) hx hb dX9_takeTurn_178 (by decide) ?_
  refine zi_rem hx hb ⟨by omega, by omega⟩ ⟨by decide, by decide⟩ dX9_takeTurn_180 ?_
  refine lv_iconst (v := iI 0) hx hb dX9_takeTurn_181 (by decide) ?_
  refine rq_V (As := [Value.int (iI ((r1 / 8) % 10)), Value.int (iI (((r1 / 8) / 16) % 2)), Value.int (iI ((((r1 / 8) / 32) % 9) - 1)), Value.int (iI (((r1 / 8) / 512) % 20)), Value.int (iI 0)]) (rest := []) ⟨hx, hb, hml, hown, hts⟩ (c_X6_addSeal l g τ bd T hT ((r1 / 8) % 10) ⟨by omega, by omega⟩ (((r1 / 8) / 16) % 2) ⟨by omega, by omega⟩ ((((r1 / 8) / 32) % 9) - 1) ⟨by omega, by omega⟩ (((r1 / 8) / 512) % 20) ⟨by omega, by omega⟩ 0 ⟨by omega, by omega⟩) gX9_takeTurn_X6_addSeal cd_X6_addSeal rfl rfl ⟨rfl, rfl⟩ ⟨Nat.le_of_ble_eq_true rfl, Nat.le_of_ble_eq_true rfl⟩ hK hP hD hS (pm3_1 _ _ _) 0 rfl rfl rfl rfl hl rfl (Nat.le_of_ble_eq_true rfl) dX9_takeTurn_182 ⟨Nat.le_of_ble_eq_true rfl, Nat.le_of_ble_eq_true rfl⟩ (fun v w h => by rw [h.2]; exact f_stx bd ta _ _ _) (fun v w1 H locs hZ hP hD hS => ?_)
  obtain ⟨rfl, rfl⟩ := hZ
  have hP : va_P g vwCl ([xoC x (ta 0) (aj 0) (me 0) sl sv (ad 0) (bd 0)] ++ (stW bd ((aSeal T ((r1 / 8) % 10) (((r1 / 8) / 16) % 2) ((((r1 / 8) / 32) % 9) - 1) (((r1 / 8) / 512) % 20) 0).2) τ ++ juW aj J τ)) H := hP.pm (pm3_1 _ _ _).symm
  have hD : va_D A ([xoC x (ta 0) (aj 0) (me 0) sl sv (ad 0) (bd 0)] ++ (stW bd ((aSeal T ((r1 / 8) % 10) (((r1 / 8) / 16) % 2) ((((r1 / 8) / 32) % 9) - 1) (((r1 / 8) / 512) % 20) 0).2) τ ++ juW aj J τ)) := hD.pm (pm3_1 _ _ _).symm
  have hP_x := va_left hP
  have hP_t := va_left (va_right hP)
  have hP_j := va_right (va_right hP)
  refine tl_some ?_
  have hra := aSeal_r hT ((r1 / 8) % 10) (((r1 / 8) / 16) % 2) ((((r1 / 8) / 32) % 9) - 1) (((r1 / 8) / 512) % 20) 0
  exact rw_iret hx hb hr hlocks hP hS ((by (have hq : qStir T r1 = (aSeal T ((r1 / 8) % 10) (((r1 / 8) / 16) % 2) ((((r1 / 8) / 32) % 9) - 1) (((r1 / 8) / 512) % 20) 0).2 := (by unfold qStir; rw [if_pos (by omega)])); rw [hq]; exact ⟨_, _, rfl, hjb, hjs, rfl⟩)) dX9_takeTurn_185

theorem cd_X9_mayTellMore : cd yX9_mayTellMore 2 := by decide +kernel
theorem in_X9_mayTellMore_X6 : ∀ w ∈ wsX60, w ∈ wsX9_mayTellMore := by decide +kernel
theorem in_X9_mayTellMore_X9 : ∀ w ∈ wsX90, w ∈ wsX9_mayTellMore := by decide +kernel
set_option maxHeartbeats 1000000 in
set_option maxRecDepth 100000 in
theorem c_X9_mayTellMore (l : Launch) (g : va_G) (τ : Nat → ClassId) (x sl sv : Nat) (ta aj me ad bd : Nat → Nat) (T : Nat → Nat → Int) (hT : SI T) (a1 v1 : Nat) (ha1 : a1 < 2) (hv1 : v1 ≤ 99)  : Met l yX9_mayTellMore wsX9_mayTellMore { frames := 1, cells := 0, slots := 0, locals := 23 } (va_Pc [Value.ref x, Value.int (iI (a1 : Int)), Value.int (iI (v1 : Int))] (roW g τ ([xoC x (ta 0) (aj 0) (me 0) sl sv (ad 0) (bd 0)] ++ stW bd T τ))) (roQ (some (Value.int (iI (zB (mayT T a1 v1)))))) 0 0 nof := by
  have hB := hT.hB
  have hr0 := hT.r
  have hd0 := hT.d
  have hs0 := hT.s
  have hN := hT.hN
  refine roMet (cc := cX9_mayTellMore) (maxL := 3) (ret := (some .boolean)) (lv := [(0, Value.ref x), (1, Value.int (iI (a1 : Int))), (2, Value.int (iI (v1 : Int)))]) (by decide) rfl (Nat.le_of_ble_eq_true rfl) rfl ?_
  intro p e s m below meth c hx hb hr hml hts hown hlocks hP hK ls hl
  have hP_x := va_left hP
  have hP_t := va_right hP
  refine lv_iload_n hx hb dX9_mayTellMore_0 rfl (lv_at hl 2 rfl) ?_
  refine zi_if_eq (tgt := 19) hx hb ⟨by omega, by omega⟩ dX9_mayTellMore_1 (by decide) (fun c_1 => ?_) (fun c_1 => ?_)
  · have _ := c_1
    refine lv_iconst (v := iI 1) hx hb dX9_mayTellMore_19 (by decide) ?_
    refine lv_goto (tgt := 24) hx hb dX9_mayTellMore_20 (by decide) ?_
    exact zo_zret hx hb hr hlocks (by unfold mayT; first | (rw [decide_eq_true (by omega)]; rfl) | (rw [decide_eq_false (by omega), Bool.false_or]; simp only [*]; rfl)) dX9_mayTellMore_24
  · have _ := c_1
    refine lv_aload_n hx hb dX9_mayTellMore_4 rfl (lv_at hl 0 rfl) ?_
    refine va_get (D := g) (ci := 9) (v := Value.ref (bd 0)) (C := RX9) (T := TX9) (N := 7) hx hb hts in_X9_mayTellMore_X9 hown hK.1 hP_x 0 (rfl) rfl 6 (by decide) (hts _ (List.mem_of_getElem? (i := 1) rfl) : (Cond.fieldLink RX9 45 "CordSeals" "trial" "LCordSeals$State;").before _ s = true) (fun _ h9 => h9) rfl dX9_mayTellMore_5 ?_
    refine va_get (D := g) (ci := 6) (v := Value.ref (bd 10)) (C := RX6) (T := TX6) (N := 5) hx hb hts in_X9_mayTellMore_X6 hown hK.1 hP_t 0 (rfl) rfl 2 (by decide) (hts _ (List.mem_of_getElem? (i := 2) rfl) : (Cond.fieldLink RX9 109 "CordSeals$State" "seals" "LCordSeals$Seals;").before _ s = true) (fun _ h9 => h9) rfl dX9_mayTellMore_8 ?_
    refine lv_iload_n hx hb dX9_mayTellMore_11 rfl (lv_at hl 1 rfl) ?_
    refine lv_iload_n hx hb dX9_mayTellMore_12 rfl (lv_at hl 2 rfl) ?_
    refine ro_V (As := [Value.int (iI (a1 : Int)), Value.int (iI (v1 : Int))]) (rest := []) (v := some (Value.int (iI (zB (anyB (fun s => decide (T 12 s = (a1 : Int)) && decide (T 14 s = (v1 : Int))) (T 10 0).toNat))))) ⟨hx, hb, hml, hown, hts⟩ (c_X4_haveBubbles l g τ bd T hB (T 10 0).toNat (by omega) (by omega) (a1 : Int) ⟨by omega, by omega⟩ (v1 : Int) ⟨by omega, by omega⟩) gX9_mayTellMore_X4_haveBubbles cd_X4_haveBubbles rfl rfl ⟨rfl, rfl⟩ ⟨Nat.le_of_ble_eq_true rfl, Nat.le_of_ble_eq_true rfl⟩ hK (hP_t.sub [10, 11, 12, 13, 14, 15, 16] rfl) 0 rfl rfl rfl rfl hl rfl (Nat.le_of_ble_eq_true rfl) dX9_mayTellMore_13 ⟨Nat.le_of_ble_eq_true rfl, Nat.le_of_ble_eq_true rfl⟩ ?_
    refine tl_some ?_
    refine zb_if_eq (tgt := 23) hx hb dX9_mayTellMore_16 (by decide) (fun c_2 => ?_) (fun c_2 => ?_)
    · have _ := c_2
      refine lv_iconst (v := iI 0) hx hb dX9_mayTellMore_23 (by decide) ?_
      exact zo_zret hx hb hr hlocks (by unfold mayT; first | (rw [decide_eq_true (by omega)]; rfl) | (rw [decide_eq_false (by omega), Bool.false_or]; simp only [*]; rfl)) dX9_mayTellMore_24
    · have _ := c_2
      refine lv_iconst (v := iI 1) hx hb dX9_mayTellMore_19 (by decide) ?_
      refine lv_goto (tgt := 24) hx hb dX9_mayTellMore_20 (by decide) ?_
      exact zo_zret hx hb hr hlocks (by unfold mayT; first | (rw [decide_eq_true (by omega)]; rfl) | (rw [decide_eq_false (by omega), Bool.false_or]; simp only [*]; rfl)) dX9_mayTellMore_24

theorem cd_X9_fakesWith : cd yX9_fakesWith 2 := by decide +kernel
theorem in_X9_fakesWith_X6 : ∀ w ∈ wsX60, w ∈ wsX9_fakesWith := by decide +kernel
theorem in_X9_fakesWith_X9 : ∀ w ∈ wsX90, w ∈ wsX9_fakesWith := by decide +kernel
set_option maxHeartbeats 1000000 in
set_option maxRecDepth 100000 in
theorem c_X9_fakesWith (l : Launch) (g : va_G) (τ : Nat → ClassId) (x sl sv : Nat) (ta aj me ad bd : Nat → Nat) (T : Nat → Nat → Int) (hT : SI T) (J : Nat → Nat → Int) (hjb : HB J) (hjs : JSp J) (hdt : DT T J) (a1 v1 : Nat) (ha1 : a1 < 2) (hv1 : v1 ≤ 99)  : Met l yX9_fakesWith wsX9_fakesWith { frames := 4, cells := 0, slots := 0, locals := 84 } (va_Pc [Value.ref x, Value.int (iI (a1 : Int)), Value.int (iI (v1 : Int))] (rwW g τ ([xoC x (ta 0) (aj 0) (me 0) sl sv (ad 0) (bd 0)] ++ (stW bd T τ ++ juW aj J τ)))) (rwQ g (fun v w => v = some (Value.int (iI (rFks (u2 T 20 (updZ (T 20) a1 (v1 : Int))) (T 10 0).toNat))) ∧ ∃ J2, HB J2 ∧ JSp J2 ∧ DT T J2 ∧ w = [xoC x (ta 0) (aj 0) (me 0) sl sv (ad 0) (bd 0)] ++ (stW bd (u2 T 20 (updZ (T 20) a1 (v1 : Int))) τ ++ juW aj J2 τ)) (inW ([xoC x (ta 0) (aj 0) (me 0) sl sv (ad 0) (bd 0)] ++ (stW bd T τ ++ juW aj J τ)))) 0 0 (inW ([xoC x (ta 0) (aj 0) (me 0) sl sv (ad 0) (bd 0)] ++ (stW bd T τ ++ juW aj J τ))) := by
  have hB := hT.hB
  have hr0 := hT.r
  have hd0 := hT.d
  have hs0 := hT.s
  have hN := hT.hN
  refine rwMet (cc := cX9_fakesWith) (maxL := 3) (ret := (some .int)) (lv := [(0, Value.ref x), (1, Value.int (iI (a1 : Int))), (2, Value.int (iI (v1 : Int)))]) (by decide) rfl (Nat.le_of_ble_eq_true rfl) rfl ?_
  intro p e s m below meth c hx hb hr hml hts hown hlocks A H hP hD hS hK ls hl
  have hP_x := va_left hP
  have hP_t := va_left (va_right hP)
  have hP_j := va_right (va_right hP)
  refine lv_aload_n hx hb dX9_fakesWith_0 rfl (lv_at hl 0 rfl) ?_
  refine va_get (D := g) (ci := 9) (v := Value.ref (bd 0)) (C := RX9) (T := TX9) (N := 7) hx hb hts in_X9_fakesWith_X9 hown hK.1 hP_x 0 (rfl) rfl 6 (by decide) (hts _ (List.mem_of_getElem? (i := 1) rfl) : (Cond.fieldLink RX9 45 "CordSeals" "trial" "LCordSeals$State;").before _ s = true) (fun _ h9 => h9) rfl dX9_fakesWith_1 ?_
  refine va_get (D := g) (ci := 6) (v := Value.ref (bd 20)) (C := RX6) (T := TX6) (N := 5) hx hb hts in_X9_fakesWith_X6 hown hK.1 hP_t 0 (rfl) rfl 4 (by decide) (hts _ (List.mem_of_getElem? (i := 2) rfl) : (Cond.fieldLink RX9 340 "CordSeals$State" "settings" "[I").before _ s = true) (fun _ h9 => h9) rfl dX9_fakesWith_4 ?_
  refine lv_iload_n hx hb dX9_fakesWith_7 rfl (lv_at hl 1 rfl) ?_
  refine lv_iload_n hx hb dX9_fakesWith_8 rfl (lv_at hl 2 rfl) ?_
  refine zi_ast hx hb hK hP hD hS 21 (f := (T 20)) (rfl) (a1) (rfl) (by omega) (by decide) dX9_fakesWith_9 (wo := [xoC x (ta 0) (aj 0) (me 0) sl sv (ad 0) (bd 0)] ++ (stW bd (u2 T 20 (updZ (T 20) a1 (v1 : Int))) τ ++ juW aj J τ)) rfl (fun H locs hP hD hS => ?_)
  have hP : va_P g vwCl ([xoC x (ta 0) (aj 0) (me 0) sl sv (ad 0) (bd 0)] ++ (stW bd (u2 T 20 (updZ (T 20) a1 (v1 : Int))) τ ++ juW aj J τ)) H := hP
  have hD : va_D A ([xoC x (ta 0) (aj 0) (me 0) sl sv (ad 0) (bd 0)] ++ (stW bd (u2 T 20 (updZ (T 20) a1 (v1 : Int))) τ ++ juW aj J τ)) := hD
  have hP_x := va_left hP
  have hP_t := va_left (va_right hP)
  have hP_j := va_right (va_right hP)
  refine lv_aload_n hx hb dX9_fakesWith_10 rfl (lv_at hl 0 rfl) ?_
  refine va_get (D := g) (ci := 9) (v := Value.ref (aj 0)) (C := RX9) (T := TX9) (N := 7) hx hb hts in_X9_fakesWith_X9 hown hK.1 hP_x 0 (rfl) rfl 1 (by decide) (hts _ (List.mem_of_getElem? (i := 3) rfl) : (Cond.fieldLink RX9 19 "CordSeals" "judge" "LCordSeals$Judge;").before _ s = true) (fun _ h9 => h9) rfl dX9_fakesWith_11 ?_
  refine lv_aload_n hx hb dX9_fakesWith_14 rfl (lv_at hl 0 rfl) ?_
  refine va_get (D := g) (ci := 9) (v := Value.ref (bd 0)) (C := RX9) (T := TX9) (N := 7) hx hb hts in_X9_fakesWith_X9 hown hK.1 hP_x 0 (rfl) rfl 6 (by decide) (hts _ (List.mem_of_getElem? (i := 1) rfl) : (Cond.fieldLink RX9 45 "CordSeals" "trial" "LCordSeals$State;").before _ s = true) (fun _ h9 => h9) rfl dX9_fakesWith_15 ?_
  refine rq_V (As := [Value.ref (bd 0)]) (rest := []) ⟨hx, hb, hml, hown, hts⟩ (c_X1_blame l g τ bd aj (u2 T 20 (updZ (T 20) a1 (v1 : Int))) J (SI_set hT (a := a1) (v := (v1 : Int)) ha1 ⟨by omega, by omega⟩) hjb hjs) gX9_fakesWith_X1_blame cd_X1_blame rfl rfl ⟨rfl, rfl⟩ ⟨Nat.le_of_ble_eq_true rfl, Nat.le_of_ble_eq_true rfl⟩ hK hP hD hS (pm3_21 _ _ _) 0 rfl rfl rfl rfl hl rfl (Nat.le_of_ble_eq_true rfl) dX9_fakesWith_18 ⟨Nat.le_of_ble_eq_true rfl, Nat.le_of_ble_eq_true rfl⟩ (fun v w h => by rw [h.2]; exact f_ju aj bd _ _ _ _) (fun v w1 H locs hZ hP hD hS => ?_)
  obtain ⟨rfl, rfl⟩ := hZ
  have hP : va_P g vwCl ([xoC x (ta 0) (aj 0) (me 0) sl sv (ad 0) (bd 0)] ++ (stW bd (u2 T 20 (updZ (T 20) a1 (v1 : Int))) τ ++ juW aj (blameJ (u2 T 20 (updZ (T 20) a1 (v1 : Int))) J) τ)) H := hP.pm (pm3_21 _ _ _).symm
  have hD : va_D A ([xoC x (ta 0) (aj 0) (me 0) sl sv (ad 0) (bd 0)] ++ (stW bd (u2 T 20 (updZ (T 20) a1 (v1 : Int))) τ ++ juW aj (blameJ (u2 T 20 (updZ (T 20) a1 (v1 : Int))) J) τ)) := hD.pm (pm3_21 _ _ _).symm
  obtain ⟨J1, hjb1, hjs1, hse1, hje⟩ : ∃ J1, HB J1 ∧ JSp J1 ∧ SEE (u2 T 20 (updZ (T 20) a1 (v1 : Int))) J1 6 ∧ blameJ (u2 T 20 (updZ (T 20) a1 (v1 : Int))) J = J1 := ⟨_, (blame_ok (SI_set hT (a := a1) (v := (v1 : Int)) ha1 ⟨by omega, by omega⟩) hjb hjs).1, (blame_ok (SI_set hT (a := a1) (v := (v1 : Int)) ha1 ⟨by omega, by omega⟩) hjb hjs).2, SEE_blame (SI_set hT (a := a1) (v := (v1 : Int)) ha1 ⟨by omega, by omega⟩) (DT_20.mpr hdt), rfl⟩
  rw [hje] at hP hD
  have hP_x := va_left hP
  have hP_t := va_left (va_right hP)
  have hP_j := va_right (va_right hP)
  refine tl_none ?_
  refine lv_aload_n hx hb dX9_fakesWith_21 rfl (lv_at hl 0 rfl) ?_
  refine va_get (D := g) (ci := 9) (v := Value.ref (aj 0)) (C := RX9) (T := TX9) (N := 7) hx hb hts in_X9_fakesWith_X9 hown hK.1 hP_x 0 (rfl) rfl 1 (by decide) (hts _ (List.mem_of_getElem? (i := 3) rfl) : (Cond.fieldLink RX9 19 "CordSeals" "judge" "LCordSeals$Judge;").before _ s = true) (fun _ h9 => h9) rfl dX9_fakesWith_22 ?_
  refine lv_aload_n hx hb dX9_fakesWith_25 rfl (lv_at hl 0 rfl) ?_
  refine va_get (D := g) (ci := 9) (v := Value.ref (bd 0)) (C := RX9) (T := TX9) (N := 7) hx hb hts in_X9_fakesWith_X9 hown hK.1 hP_x 0 (rfl) rfl 6 (by decide) (hts _ (List.mem_of_getElem? (i := 1) rfl) : (Cond.fieldLink RX9 45 "CordSeals" "trial" "LCordSeals$State;").before _ s = true) (fun _ h9 => h9) rfl dX9_fakesWith_26 ?_
  refine ro_V (As := [Value.ref (bd 0)]) (rest := []) (v := some (Value.int (iI (cnt (jF J1) ((u2 T 20 (updZ (T 20) a1 (v1 : Int))) 10 0).toNat)))) ⟨hx, hb, hml, hown, hts⟩ (c_X1_fakes l g τ bd aj (u2 T 20 (updZ (T 20) a1 (v1 : Int))) J1 (SI_set hT (a := a1) (v := (v1 : Int)) ha1 ⟨by omega, by omega⟩) hjb1) gX9_fakesWith_X1_fakes cd_X1_fakes rfl rfl ⟨rfl, rfl⟩ ⟨Nat.le_of_ble_eq_true rfl, Nat.le_of_ble_eq_true rfl⟩ hK (hP_j.app hP_t) 0 rfl rfl rfl rfl hl rfl (Nat.le_of_ble_eq_true rfl) dX9_fakesWith_29 ⟨Nat.le_of_ble_eq_true rfl, Nat.le_of_ble_eq_true rfl⟩ ?_
  refine tl_some ?_
  refine cv_i (y := iI (rFks (u2 T 20 (updZ (T 20) a1 (v1 : Int))) ((u2 T 20 (updZ (T 20) a1 (v1 : Int))) 10 0).toNat)) (congrArg iI (jF_eq (SI_set hT (a := a1) (v := (v1 : Int)) ha1 ⟨by omega, by omega⟩) hse1)) ?_
  exact rw_iret hx hb hr hlocks hP hS (⟨rfl, _, hjb1, hjs1, DT_20.mp (DT_see hse1), rfl⟩) dX9_fakesWith_32
