/-! the class: its text, loading -/
theorem i2c_iI {z : Int} (hz : 0 ≤ z ∧ z < 65536) : ((iI z).toUInt32 % 65536).toInt32 = iI z := zc_nar hz
/-- every number of the text's reading is small -/
def BX (X : Nat → Int) : Prop := ∀ k, -1 ≤ X k ∧ X k < 65536
theorem BX_u {X : Nat → Int} (h : BX X) {k : Nat} {z : Int} (hz : -1 ≤ z ∧ z < 65536) : BX (updZ X k z) := fun j => by
  unfold updZ
  split
  · exact hz
  · exact h j
theorem BX_a {X : Nat → Int} (h : BX X) (hT : TI X) : BX (updZ X 2 (X 2 + 1)) := BX_u h (by have h1 := hT.1; have h2 := hT.2.1; have h3 := hT.2.2.1; omega)
theorem BX_f {X : Nat → Int} (h : BX X) : BX (updZ X 3 1) := BX_u h (by omega)
theorem BX_dig {X S : Nat → Int} (h : BX X) (hT : TI X) (a b : Int) : BX (tDig X S a b).2 := by
  unfold tDig
  split
  · exact BX_a h hT
  · exact BX_f h
theorem BX_sgn {X S : Nat → Int} (h : BX X) (hT : TI X) (z : Int) : BX (tSgn X S z) := by
  unfold tSgn
  split
  · exact BX_a h hT
  · exact BX_f h
theorem BX_yr {X S : Nat → Int} (h : BX X) (hT : TI X) : ∀ i, BX (tYr X S i).2
  | 0 => BX_dig h hT 1 1
  | i + 1 => BX_dig (BX_yr h hT i) (tYr_ok hT i) 0 9
theorem tYr_b (X S : Nat → Int) : ∀ i : Nat, 0 ≤ (tYr X S i).1 ∧ (tYr X S i).1 < 2 * 10 ^ i
  | 0 => by
    have h := tDig_r (X := X) (S := S) (a := 1) (b := 1) (by omega) (by omega)
    show 0 ≤ (tDig X S 1 1).1 ∧ (tDig X S 1 1).1 < 2 * 10 ^ 0
    omega
  | i + 1 => by
    have h1 := tYr_b X S i
    have h := tDig_r (X := (tYr X S i).2) (S := S) (a := 0) (b := 9) (by omega) (by omega)
    have e : (10 : Int) ^ (i + 1) = 10 * 10 ^ i := by rw [Int.pow_succ, Int.mul_comm]
    show 0 ≤ 10 * (tYr X S i).1 + (tDig (tYr X S i).2 S 0 9).1 ∧ 10 * (tYr X S i).1 + (tDig (tYr X S i).2 S 0 9).1 < 2 * 10 ^ (i + 1)
    rw [e]
    omega
theorem tYr_3 (X S : Nat → Int) : -1 ≤ (tYr X S 3).1 ∧ (tYr X S 3).1 < 65536 := by
  have h := tYr_b X S 3
  omega
theorem BX_col {X S : Nat → Int} (h : BX X) (hT : TI X) : BX (tCol X S).2 ∧ -1 ≤ (tCol X S).1 ∧ (tCol X S).1 < 65536 := by
  have hd := tDig_r (X := X) (S := S) (a := 0) (b := 7) (by omega) (by omega)
  unfold tCol
  split
  · exact ⟨BX_a h hT, by show (-1 : Int) ≤ -1; omega, by show (-1 : Int) < 65536; omega⟩
  · exact ⟨BX_dig h hT 0 7, by omega, by omega⟩
theorem BX_ris {X S : Nat → Int} (h : BX X) (hT : TI X) : ∀ i, BX (tRis X S i).2
  | 0 => h
  | i + 1 => by
    rw [tRis]
    split
    · exact BX_a (BX_ris h hT i) (tRis_ok hT i).1
    · exact BX_ris h hT i
theorem ris_8 {X S : Nat → Int} (hT : TI X) {i : Nat} (hi : i ≤ 8) : -1 ≤ (tRis X S i).1 ∧ (tRis X S i).1 < 65536 := by
  obtain ⟨-, h1, h2⟩ := tRis_ok (S := S) hT i
  have h3 : (2 : Int) ^ i ≤ 256 := by
    have : ∀ m, m < 9 → (2 : Int) ^ m ≤ 256 := by decide
    exact this i (by omega)
  omega
theorem dig_9 {X S : Nat → Int} {b : Int} (hb : 0 ≤ b ∧ b ≤ 9) : -1 ≤ (tDig X S 0 b).1 ∧ (tDig X S 0 b).1 < 65536 := by
  have h := tDig_r (X := X) (S := S) (a := 0) (b := b) (by omega) hb.1
  omega
theorem BX_tA {X : Nat → Int} (h : BX X) (hT : TI X) : BX (tA X) := BX_a h hT
theorem BX_reign {X S : Nat → Int} (h : BX X) (hT : TI X) (hl : X 2 < X 0) : BX (tReign X S) := by
  have t1 := tYr_ok (S := S) (TI_tA hT hl) 3
  have b1 := BX_yr (S := S) (BX_tA h hT) (TI_tA hT hl) 3
  have b2 := BX_u (k := 6) b1 (tYr_3 (tA X) S)
  have t2 := TI_u t1 (k := 6) (by omega) (z := (tYr (tA X) S 3).1)
  have b3 := BX_ris (S := S) b2 t2 8
  have r3 := ris_8 (S := S) t2 (i := 8) (by omega)
  unfold tReign
  split
  · exact BX_f (BX_u b3 r3)
  · exact BX_u b3 r3
theorem BX_die {X S : Nat → Int} (h : BX X) (hT : TI X) (hl : X 2 < X 0) : BX (tDie X S) := by
  have t1 : TI (tDieN X S) := TI_u (tDig_ok (TI_tA hT hl) 0 5) (by omega)
  have b1 : BX (tDieN X S) := BX_u (BX_dig (BX_tA h hT) (TI_tA hT hl) 0 5) (dig_9 (by omega))
  have t2 : TI (tDieA X S) := TI_u (tYr_ok t1 3) (by omega)
  have b2 : BX (tDieA X S) := BX_u (BX_yr b1 t1 3) (tYr_3 _ _)
  have t3 : TI (tDieS X S) := tSgn_ok t2 45
  have b3 : BX (tDieS X S) := BX_sgn b2 t2 45
  exact BX_u (BX_yr b3 t3 3) (tYr_3 _ _)
theorem BX_crN {X S : Nat → Int} (h : BX X) (hT : TI X) (hl : X 2 < X 0) : BX (tCrN X S) := BX_u (BX_dig (BX_tA h hT) (TI_tA hT hl) 0 9) (dig_9 (by omega))
theorem BX_crack {X S : Nat → Int} (h : BX X) (hT : TI X) (hl : X 2 < X 0) : BX (tCrack X S) := BX_u (BX_yr (BX_crN h hT hl) (tCrN_ok hT hl) 3) (tYr_3 _ _)
theorem BX_seal {X S : Nat → Int} (h : BX X) (hT : TI X) (hl : X 2 < X 0) : BX (tSeal X S) := by
  have c1 := BX_col (S := S) (BX_crN (S := S) h hT hl) (tCrN_ok (S := S) hT hl)
  have t1 : TI (tSeC X S) := TI_u (tCol_ok (tCrN_ok hT hl)) (by omega)
  have b1 : BX (tSeC X S) := BX_u c1.1 c1.2
  have r1 := tDig_r (X := tSeC X S) (S := S) (a := 0) (b := 9) (by omega) (by omega)
  have t2 : TI (tSeB X S) := TI_u (tDig_ok t1 0 9) (by omega)
  have b2 : BX (tSeB X S) := BX_u (BX_dig b1 t1 0 9) (by omega)
  have r2 := tDig_r (X := tSeB X S) (S := S) (a := 0) (b := 9) (by omega) (by omega)
  have t3 : TI (tSeD X S) := TI_u (tDig_ok t2 0 9) (by omega)
  have b3 : BX (tSeD X S) := BX_u (BX_dig b2 t2 0 9) (by omega)
  exact BX_u (BX_ris b3 t3 4) (ris_8 t3 (by omega))
theorem BX_hang {X S : Nat → Int} (h : BX X) (hT : TI X) (hl : X 2 < X 0) : BX (tHang X S) := by
  have t0 := tDig_ok (S := S) (TI_tA hT hl) 0 2
  have b0 := BX_dig (S := S) (BX_tA h hT) (TI_tA hT hl) 0 2
  have r0 := tDig_r (X := tA X) (S := S) (a := 0) (b := 2) (by omega) (by omega)
  have hm : 0 ≤ tHaM X S ∧ tHaM X S ≤ 9 := by
    unfold tHaM
    split <;> omega
  have r1 := tDig_r (X := (tDig (tA X) S 0 2).2) (S := S) (a := 0) (b := tHaM X S) (by omega) hm.1
  have t1 : TI (tHaN X S) := TI_u (tDig_ok t0 0 (tHaM X S)) (by omega)
  have b1 : BX (tHaN X S) := BX_u (BX_dig b0 t0 0 (tHaM X S)) (by omega)
  exact BX_u (BX_dig b1 t1 0 5) (dig_9 (by omega))
theorem BX_entry {X S : Nat → Int} (hS : SB S) (h : BX X) (hT : TI X) : BX (tEntry X S) := by
  have hk : TI (tKind X S) := TI_u hT (by omega)
  have hr := tKind_r (X := X) hS
  have hb : BX (tKind X S) := BX_u h (by omega)
  have hl := tKind_l (X := X) (S := S)
  unfold tEntry
  split
  · exact BX_reign hb hk (hl (by omega))
  · split
    · exact BX_die hb hk (hl (by omega))
    · split
      · exact BX_crack hb hk (hl (by omega))
      · split
        · exact BX_seal hb hk (hl (by omega))
        · split
          · exact BX_hang hb hk (hl (by omega))
          · exact BX_f hb
theorem BX_next {X S : Nat → Int} (hS : SB S) (h : BX X) (hT : TI X) : BX (tNext X S).2 := by
  have hs : BX (tSemi X S) := by
    unfold tSemi
    split
    · exact BX_sgn h hT 59
    · exact h
  unfold tNext
  split
  · exact h
  · split
    · exact BX_entry hS hs (tSemi_ok hT)
    · exact hs
theorem BX_loop {X S : Nat → Int} (hS : SB S) (h : BX X) (hT : TL X) : ∀ i, BX (tLoop X S i)
  | 0 => BX_u (BX_u h (by omega)) (by omega)
  | i + 1 => BX_next hS (BX_loop hS h hT i) (tLoop_ok hT i)
theorem BX_all {X S : Nat → Int} (hS : SB S) (h : BX X) (hT : TL X) : BX (tAll X S) := by
  unfold tAll
  split
  · exact BX_next hS (BX_loop hS h hT _) (tLoop_ok hT _)
  · exact BX_loop hS h hT 120
theorem TI_TL {X : Nat → Int} (h : TI X) : TL X := ⟨by have h1 := h.1; have h2 := h.2.1; omega, h.2.2.1, h.2.2.2.1, h.2.2.2.2⟩
/-- the entries done one after another: the state, and how many are left out -/
def eR (X S : Nat → Int) (R : Nat → Nat → Int) : Nat → (Nat → Nat → Int) × Int
  | 0 => (R, 0)
  | i + 1 => ((aEnter (eR X S R i).1 (tLoop X S (i + 1))).2, (eR X S R i).2 + (if (aEnter (eR X S R i).1 (tLoop X S (i + 1))).1 < 0 then 1 else 0))
theorem SI_aEnter {R : Nat → Nat → Int} (hI : SI R) (X : Nat → Int) : SI (aEnter R X).2 := by
  unfold aEnter
  repeat' split
  all_goals first | exact SI_aReign hI _ _ | exact SI_aDie hI _ _ _ | exact SI_aCrack hI _ _ | exact SI_aSeal hI _ _ _ _ _ | exact SI_aHang hI _ _
theorem aEnter_r {R : Nat → Nat → Int} (hI : SI R) (X : Nat → Int) : aOk (aEnter R X).1 := by
  unfold aEnter
  repeat' split
  all_goals first | exact aReign_r hI _ _ | exact aDie_r hI _ _ _ | exact aCrack_r hI _ _ | exact aSeal_r hI _ _ _ _ _ | exact aHang_r hI _ _
theorem eR_SI {R : Nat → Nat → Int} (hI : SI R) (X S : Nat → Int) : ∀ i, SI (eR X S R i).1
  | 0 => hI
  | i + 1 => SI_aEnter (eR_SI hI X S i) _
theorem eR_b (X S : Nat → Int) (R : Nat → Nat → Int) : ∀ i : Nat, 0 ≤ (eR X S R i).2 ∧ (eR X S R i).2 ≤ i
  | 0 => by show (0 : Int) ≤ 0 ∧ (0 : Int) ≤ ((0 : Nat) : Int); omega
  | i + 1 => by
    have h := eR_b X S R i
    show 0 ≤ (eR X S R i).2 + (if (aEnter (eR X S R i).1 (tLoop X S (i + 1))).1 < 0 then 1 else 0) ∧ (eR X S R i).2 + (if (aEnter (eR X S R i).1 (tLoop X S (i + 1))).1 < 0 then 1 else 0) ≤ ((i + 1 : Nat) : Int)
    split <;> omega
theorem SI_00 {R : Nat → Nat → Int} (hI : SI R) : SI (R00 R) := by
  have z1 : R00 R 1 0 = 0 := rfl
  have z4 : R00 R 4 0 = 0 := rfl
  have z10 : R00 R 10 0 = 0 := rfl
  have z18 : ∀ h, h < 6 → R00 R 18 h = 0 := fun h hh => if_pos hh
  refine ⟨?_, by omega, by omega, by omega, fun j hj => by omega, fun i j _ hj => by omega, fun d hd => by omega, fun s hs => by omega, fun h hh => by rw [z18 h hh]; omega, fun h k hh hk => by rw [z18 h hh] at hk; omega, fun h k h2 k2 hh _ hk => by rw [z18 h hh] at hk; omega, ?_, ?_⟩
  · refine HB_u (HB_u (HB_u (HB_u (HB_u hI.hB (fun _ => ⟨by omega, by omega⟩)) (fun _ => ⟨by omega, by omega⟩)) (fun _ => ⟨by omega, by omega⟩)) (fun j => ?_)) (HB_upd (HB_upd (hI.hB 20) ⟨by omega, by omega⟩) ⟨by omega, by omega⟩)
    have h := hI.hB 18 j
    unfold zf
    split
    · omega
    · exact h
  · show 0 ≤ (10 : Int) ∧ (10 : Int) ≤ 99
    omega
  · show 0 ≤ (3 : Int) ∧ (3 : Int) ≤ 99
    omega
theorem f_txs (ta : Nat → Nat) (X X2 S S2 : Nat → Int) (τ : Nat → ClassId) : (txW ta X2 S2 τ).map Prod.fst = (txW ta X S τ).map Prod.fst := rfl
theorem f_sX (ad ta : Nat → Nat) (R R2 : Nat → Nat → Int) (X S : Nat → Int) (τ : Nat → ClassId) : (stW ad R2 τ ++ txW ta X S τ).map Prod.fst = (stW ad R τ ++ txW ta X S τ).map Prod.fst := rfl
theorem f_xsX (Y : Nat × va_E) (ad ta : Nat → Nat) (R R2 : Nat → Nat → Int) (X X2 S : Nat → Int) (τ : Nat → ClassId) : ([Y] ++ (stW ad R2 τ ++ txW ta X2 S τ)).map Prod.fst = ([Y] ++ (stW ad R τ ++ txW ta X S τ)).map Prod.fst := rfl

theorem pm2_1 (A0 A1 : va_W) : (A0 ++ A1).Perm ((A1) ++ A0) := by
  have h := List.Perm.flatMap_right (fun i => ([A0, A1] : List va_W).getD i []) (show List.Perm [0, 1] [1, 0] by decide)
  simpa [List.append_assoc] using h

theorem pm3_12 (A0 A1 A2 : va_W) : (A0 ++ (A1 ++ A2)).Perm ((A1 ++ A2) ++ A0) := by
  have h := List.Perm.flatMap_right (fun i => ([A0, A1, A2] : List va_W).getD i []) (show List.Perm [0, 1, 2] [1, 2, 0] by decide)
  simpa [List.append_assoc] using h

theorem pm3_2 (A0 A1 A2 : va_W) : (A0 ++ (A1 ++ A2)).Perm ((A2) ++ (A0 ++ A1)) := by
  have h := List.Perm.flatMap_right (fun i => ([A0, A1, A2] : List va_W).getD i []) (show List.Perm [0, 1, 2] [2, 0, 1] by decide)
  simpa [List.append_assoc] using h

theorem pm5_013 (A0 A1 A2 A3 A4 : va_W) : (A0 ++ (A1 ++ (A2 ++ (A3 ++ A4)))).Perm ((A0 ++ (A1 ++ A3)) ++ (A2 ++ A4)) := by
  have h := List.Perm.flatMap_right (fun i => ([A0, A1, A2, A3, A4] : List va_W).getD i []) (show List.Perm [0, 1, 2, 3, 4] [0, 1, 3, 2, 4] by decide)
  simpa [List.append_assoc] using h

theorem pm5_1 (A0 A1 A2 A3 A4 : va_W) : (A0 ++ (A1 ++ (A2 ++ (A3 ++ A4)))).Perm ((A1) ++ (A0 ++ (A2 ++ (A3 ++ A4)))) := by
  have h := List.Perm.flatMap_right (fun i => ([A0, A1, A2, A3, A4] : List va_W).getD i []) (show List.Perm [0, 1, 2, 3, 4] [1, 0, 2, 3, 4] by decide)
  simpa [List.append_assoc] using h

theorem pm5_2 (A0 A1 A2 A3 A4 : va_W) : (A0 ++ (A1 ++ (A2 ++ (A3 ++ A4)))).Perm ((A2) ++ (A0 ++ (A1 ++ (A3 ++ A4)))) := by
  have h := List.Perm.flatMap_right (fun i => ([A0, A1, A2, A3, A4] : List va_W).getD i []) (show List.Perm [0, 1, 2, 3, 4] [2, 0, 1, 3, 4] by decide)
  simpa [List.append_assoc] using h

theorem pm5_3 (A0 A1 A2 A3 A4 : va_W) : (A0 ++ (A1 ++ (A2 ++ (A3 ++ A4)))).Perm ((A3) ++ (A0 ++ (A1 ++ (A2 ++ A4)))) := by
  have h := List.Perm.flatMap_right (fun i => ([A0, A1, A2, A3, A4] : List va_W).getD i []) (show List.Perm [0, 1, 2, 3, 4] [3, 0, 1, 2, 4] by decide)
  simpa [List.append_assoc] using h

theorem cd_X9_clearText : cd yX9_clearText 0 := by decide +kernel
theorem in_X9_clearText_X9 : ∀ w ∈ wsX90, w ∈ wsX9_clearText := by decide +kernel
set_option maxHeartbeats 1000000 in
set_option maxRecDepth 100000 in
theorem c_X9_clearText (l : Launch) (g : va_G) (τ : Nat → ClassId) (x sl sv : Nat) (ta aj me ad bd : Nat → Nat) (X S : Nat → Int) (hS2 : SB S) (hL : TL X)  : Met l yX9_clearText wsX9_clearText { frames := 1, cells := 0, slots := 0, locals := 21 } (va_Pc [Value.ref x] (rwW g τ ([xoC x (ta 0) (aj 0) (me 0) sl sv (ad 0) (bd 0)] ++ txW ta X S τ))) (rwQ g (fun v w => v = some (Value.int (iI (X 0))) ∧ w = [xoC x (ta 0) (aj 0) (me 0) sl sv (ad 0) (bd 0)] ++ txW ta (updZ X 0 0) S τ) (inW ([xoC x (ta 0) (aj 0) (me 0) sl sv (ad 0) (bd 0)] ++ txW ta X S τ))) 0 0 (inW ([xoC x (ta 0) (aj 0) (me 0) sl sv (ad 0) (bd 0)] ++ txW ta X S τ)) := by
  refine rwMet (cc := cX9_clearText) (maxL := 1) (ret := (some .int)) (lv := [(0, Value.ref x)]) (by decide) rfl (Nat.le_of_ble_eq_true rfl) rfl ?_
  intro p e s m below meth c hx hb hr hml hts hown hlocks A H hP hD hS hK ls hl
  have hP_x := va_left hP
  have hP_X := va_right hP
  refine lv_aload_n hx hb dX9_clearText_0 rfl (lv_at hl 0 rfl) ?_
  refine va_get (D := g) (ci := 9) (v := Value.ref (ta 0)) (C := RX9) (T := TX9) (N := 7) hx hb hts in_X9_clearText_X9 hown hK.1 hP_x 0 (rfl) rfl 0 (by decide) (hts _ (List.mem_of_getElem? (i := 1) rfl) : (Cond.fieldLink RX9 10 "CordSeals" "text" "LCordSeals$Text;").before _ s = true) (fun _ h9 => h9) rfl dX9_clearText_1 ?_
  refine rq_V (As := []) (rest := []) ⟨hx, hb, hml, hown, hts⟩ (c_X7_makeEmpty l g τ ta X S hS2 hL ) gX9_clearText_X7_makeEmpty cd_X7_makeEmpty rfl rfl ⟨rfl, rfl⟩ ⟨Nat.le_of_ble_eq_true rfl, Nat.le_of_ble_eq_true rfl⟩ hK hP hD hS (pm2_1 _ _) 0 rfl rfl rfl rfl hl rfl (Nat.le_of_ble_eq_true rfl) dX9_clearText_4 ⟨Nat.le_of_ble_eq_true rfl, Nat.le_of_ble_eq_true rfl⟩ (fun v w h => by rw [h.2]; exact f_txs ta _ _ _ _ _) (fun v w1 H locs hZ hP hD hS => ?_)
  obtain ⟨rfl, rfl⟩ := hZ
  have hP : va_P g vwCl ([xoC x (ta 0) (aj 0) (me 0) sl sv (ad 0) (bd 0)] ++ txW ta (updZ X 0 0) S τ) H := hP.pm (pm2_1 _ _).symm
  have hD : va_D A ([xoC x (ta 0) (aj 0) (me 0) sl sv (ad 0) (bd 0)] ++ txW ta (updZ X 0 0) S τ) := hD.pm (pm2_1 _ _).symm
  have hP_x := va_left hP
  have hP_X := va_right hP
  refine tl_some ?_
  exact rw_iret hx hb hr hlocks hP hS (⟨rfl, rfl⟩) dX9_clearText_7

theorem cd_X9_errorPosition : cd yX9_errorPosition 0 := by decide +kernel
theorem in_X9_errorPosition_X9 : ∀ w ∈ wsX90, w ∈ wsX9_errorPosition := by decide +kernel
set_option maxHeartbeats 1000000 in
set_option maxRecDepth 100000 in
theorem c_X9_errorPosition (l : Launch) (g : va_G) (τ : Nat → ClassId) (x sl sv : Nat) (ta aj me ad bd : Nat → Nat) (X S : Nat → Int) (hS2 : SB S) (hL : TL X)  : Met l yX9_errorPosition wsX9_errorPosition { frames := 7, cells := 0, slots := 0, locals := 147 } (va_Pc [Value.ref x] (rwW g τ ([xoC x (ta 0) (aj 0) (me 0) sl sv (ad 0) (bd 0)] ++ txW ta X S τ))) (rwQ g (fun v w => v = some (Value.int (iI (tErr X S))) ∧ w = [xoC x (ta 0) (aj 0) (me 0) sl sv (ad 0) (bd 0)] ++ txW ta (tAll X S) S τ) (inW ([xoC x (ta 0) (aj 0) (me 0) sl sv (ad 0) (bd 0)] ++ txW ta X S τ))) 0 0 (inW ([xoC x (ta 0) (aj 0) (me 0) sl sv (ad 0) (bd 0)] ++ txW ta X S τ)) := by
  refine rwMet (cc := cX9_errorPosition) (maxL := 1) (ret := (some .int)) (lv := [(0, Value.ref x)]) (by decide) rfl (Nat.le_of_ble_eq_true rfl) rfl ?_
  intro p e s m below meth c hx hb hr hml hts hown hlocks A H hP hD hS hK ls hl
  have hP_x := va_left hP
  have hP_X := va_right hP
  refine lv_aload_n hx hb dX9_errorPosition_0 rfl (lv_at hl 0 rfl) ?_
  refine va_get (D := g) (ci := 9) (v := Value.ref (ta 0)) (C := RX9) (T := TX9) (N := 7) hx hb hts in_X9_errorPosition_X9 hown hK.1 hP_x 0 (rfl) rfl 0 (by decide) (hts _ (List.mem_of_getElem? (i := 1) rfl) : (Cond.fieldLink RX9 10 "CordSeals" "text" "LCordSeals$Text;").before _ s = true) (fun _ h9 => h9) rfl dX9_errorPosition_1 ?_
  refine rq_V (As := []) (rest := []) ⟨hx, hb, hml, hown, hts⟩ (c_X7_firstError l g τ ta X S hS2 hL ) gX9_errorPosition_X7_firstError cd_X7_firstError rfl rfl ⟨rfl, rfl⟩ ⟨Nat.le_of_ble_eq_true rfl, Nat.le_of_ble_eq_true rfl⟩ hK hP hD hS (pm2_1 _ _) 0 rfl rfl rfl rfl hl rfl (Nat.le_of_ble_eq_true rfl) dX9_errorPosition_4 ⟨Nat.le_of_ble_eq_true rfl, Nat.le_of_ble_eq_true rfl⟩ (fun v w h => by rw [h.2]; exact f_txs ta _ _ _ _ _) (fun v w1 H locs hZ hP hD hS => ?_)
  obtain ⟨rfl, rfl⟩ := hZ
  have hP : va_P g vwCl ([xoC x (ta 0) (aj 0) (me 0) sl sv (ad 0) (bd 0)] ++ txW ta (tAll X S) S τ) H := hP.pm (pm2_1 _ _).symm
  have hD : va_D A ([xoC x (ta 0) (aj 0) (me 0) sl sv (ad 0) (bd 0)] ++ txW ta (tAll X S) S τ) := hD.pm (pm2_1 _ _).symm
  have hP_x := va_left hP
  have hP_X := va_right hP
  refine tl_some ?_
  exact rw_iret hx hb hr hlocks hP hS (⟨rfl, rfl⟩) dX9_errorPosition_7

theorem cd_X9_append : cd yX9_append 1 := by decide +kernel
theorem in_X9_append_X7 : ∀ w ∈ wsX70, w ∈ wsX9_append := by decide +kernel
theorem in_X9_append_X9 : ∀ w ∈ wsX90, w ∈ wsX9_append := by decide +kernel
set_option maxHeartbeats 1000000 in
set_option maxRecDepth 100000 in
theorem c_X9_append (l : Launch) (hst : l.stackTraces = false) (g : va_G) (τ : Nat → ClassId) (x sl sv : Nat) (ta aj me ad bd : Nat → Nat) (X S : Nat → Int) (hS2 : SB S) (hL : TL X) (c1 : Int) (rc1 : -2147483648 ≤ c1 ∧ c1 < 2147483648)  : uMet l yX9_append wsX9_append { frames := 7, cells := 1, slots := 6, locals := 110 } g τ [Value.ref x, Value.int (iI c1)] ([xoC x (ta 0) (aj 0) (me 0) sl sv (ad 0) (bd 0)] ++ txW ta X S τ) (fun v w => ((0 ≤ c1 ∧ c1 ≤ 255) ∧ X 0 < 120) ∧ v = some (Value.int (iI (X 0 + 1))) ∧ w = [xoC x (ta 0) (aj 0) (me 0) sl sv (ad 0) (bd 0)] ++ txW ta (updZ X 0 (X 0 + 1)) (updZ S (X 0).toNat c1) τ) (fun E w => ((¬ (0 ≤ c1 ∧ c1 ≤ 255) ∧ E = "java/lang/IllegalArgumentException") ∨ ((0 ≤ c1 ∧ c1 ≤ 255) ∧ X 0 = 120 ∧ E = "java/lang/IllegalStateException")) ∧ w = [xoC x (ta 0) (aj 0) (me 0) sl sv (ad 0) (bd 0)] ++ txW ta X S τ) := by
  have hL1 : 0 ≤ X 0 ∧ X 0 ≤ 120 := ⟨hL.1, hL.2.1⟩
  refine uMet_of (cc := cX9_append) (maxL := 2) (ret := (some .int)) (lv := [(0, Value.ref x), (1, Value.int (iI c1))]) (by decide) rfl (Nat.le_of_ble_eq_true rfl) rfl ?_
  intro p e s m below meth c hx hb hr hml hts hown hlocks ht A H hP hD hS hK hZT hZU ls hl
  have hP_x := va_left hP
  have hP_X := va_right hP
  refine lv_iload_n hx hb dX9_append_0 rfl (lv_at hl 1 rfl) ?_
  refine zi_if_lt (tgt := 15) hx hb ⟨by omega, by omega⟩ dX9_append_1 (by decide) (fun c_1 => ?_) (fun c_1 => ?_)
  · have _ := c_1
    refine lv_iconst (v := iI 0) hx hb dX9_append_15 (by decide) ?_
    refine xr_S (As := [Value.int (iI 0)]) (rest := []) ⟨hx, hb, hml, hown, hts⟩ (x_X9_mustFit l hst g τ) gX9_append_X9_mustFit cd_X9_mustFit rfl ⟨rfl, rfl⟩ ⟨Nat.le_of_ble_eq_true rfl, Nat.le_of_ble_eq_true rfl⟩ hK hZT hZU hP hD hS [] rfl rfl rfl hl rfl (Nat.le_of_ble_eq_true rfl) dX9_append_16 ⟨Nat.le_of_ble_eq_true rfl, Nat.le_of_ble_eq_true rfl⟩ (fun w1 h => by rw [h]) (fun w1 H locs q9 ce9 hZ hP hD hS a1 a2 a3 => ?_)
    subst hZ
    have hP : va_P g vwCl ([xoC x (ta 0) (aj 0) (me 0) sl sv (ad 0) (bd 0)] ++ txW ta X S τ) H := hP
    exact u_out ht hlocks a1 a2 a3 hP hS ⟨Nat.le_of_ble_eq_true rfl, Nat.le_of_ble_eq_true rfl⟩ (⟨Or.inl ⟨by omega, rfl⟩, rfl⟩)
  · have _ := c_1
    refine lv_iload_n hx hb dX9_append_4 rfl (lv_at hl 1 rfl) ?_
    refine lv_sipush (v := iI 255) hx hb dX9_append_5 (by decide) ?_
    refine zi_icmp_gt (tgt := 15) hx hb ⟨by omega, by omega⟩ ⟨by decide, by decide⟩ dX9_append_8 (by decide) (fun c_2 => ?_) (fun c_2 => ?_)
    · have _ := c_2
      refine lv_iconst (v := iI 0) hx hb dX9_append_15 (by decide) ?_
      refine xr_S (As := [Value.int (iI 0)]) (rest := []) ⟨hx, hb, hml, hown, hts⟩ (x_X9_mustFit l hst g τ) gX9_append_X9_mustFit cd_X9_mustFit rfl ⟨rfl, rfl⟩ ⟨Nat.le_of_ble_eq_true rfl, Nat.le_of_ble_eq_true rfl⟩ hK hZT hZU hP hD hS [] rfl rfl rfl hl rfl (Nat.le_of_ble_eq_true rfl) dX9_append_16 ⟨Nat.le_of_ble_eq_true rfl, Nat.le_of_ble_eq_true rfl⟩ (fun w1 h => by rw [h]) (fun w1 H locs q9 ce9 hZ hP hD hS a1 a2 a3 => ?_)
      subst hZ
      have hP : va_P g vwCl ([xoC x (ta 0) (aj 0) (me 0) sl sv (ad 0) (bd 0)] ++ txW ta X S τ) H := hP
      exact u_out ht hlocks a1 a2 a3 hP hS ⟨Nat.le_of_ble_eq_true rfl, Nat.le_of_ble_eq_true rfl⟩ (⟨Or.inl ⟨by omega, rfl⟩, rfl⟩)
    · have _ := c_2
      refine lv_iconst (v := iI 1) hx hb dX9_append_11 (by decide) ?_
      refine lv_goto (tgt := 16) hx hb dX9_append_12 (by decide) ?_
      refine ro_S (As := [Value.int (iI 1)]) (rest := []) (v := none) ⟨hx, hb, hml, hown, hts⟩ (c_X9_mustFit l g τ) gX9_append_X9_mustFit cd_X9_mustFit rfl ⟨rfl, rfl⟩ ⟨Nat.le_of_ble_eq_true rfl, Nat.le_of_ble_eq_true rfl⟩ hK (fun _ _ h => nomatch h) rfl hl rfl (Nat.le_of_ble_eq_true rfl) dX9_append_16 ⟨Nat.le_of_ble_eq_true rfl, Nat.le_of_ble_eq_true rfl⟩ ?_
      refine tl_none ?_
      refine lv_aload_n hx hb dX9_append_19 rfl (lv_at hl 0 rfl) ?_
      refine va_get (D := g) (ci := 9) (v := Value.ref (ta 0)) (C := RX9) (T := TX9) (N := 7) hx hb hts in_X9_append_X9 hown hK.1 hP_x 0 (rfl) rfl 0 (by decide) (hts _ (List.mem_of_getElem? (i := 1) rfl) : (Cond.fieldLink RX9 10 "CordSeals" "text" "LCordSeals$Text;").before _ s = true) (fun _ h9 => h9) rfl dX9_append_20 ?_
      refine va_get (D := g) (ci := 7) (v := Value.int (iI (X 0))) (C := RX7) (T := TX7) (N := 12) hx hb hts in_X9_append_X7 hown hK.1 hP_X 0 (rfl) rfl 0 (by decide) (hts _ (List.mem_of_getElem? (i := 2) rfl) : (Cond.fieldLink RX9 52 "CordSeals$Text" "length" "I").before _ s = true) (fun _ h9 => h9) rfl dX9_append_23 ?_
      refine lv_bipush (v := iI 120) hx hb dX9_append_26 (by decide) ?_
      refine zi_icmp_ge (tgt := 35) hx hb ⟨by omega, by omega⟩ ⟨by decide, by decide⟩ dX9_append_28 (by decide) (fun c_3 => ?_) (fun c_3 => ?_)
      · have _ := c_3
        refine lv_iconst (v := iI 0) hx hb dX9_append_35 (by decide) ?_
        refine xr_S (As := [Value.int (iI 0)]) (rest := []) ⟨hx, hb, hml, hown, hts⟩ (x_X9_mustBeFree l hst g τ) gX9_append_X9_mustBeFree cd_X9_mustBeFree rfl ⟨rfl, rfl⟩ ⟨Nat.le_of_ble_eq_true rfl, Nat.le_of_ble_eq_true rfl⟩ hK hZT hZU hP hD hS [] rfl rfl rfl hl rfl (Nat.le_of_ble_eq_true rfl) dX9_append_36 ⟨Nat.le_of_ble_eq_true rfl, Nat.le_of_ble_eq_true rfl⟩ (fun w1 h => by rw [h]) (fun w1 H locs q9 ce9 hZ hP hD hS a1 a2 a3 => ?_)
        subst hZ
        have hP : va_P g vwCl ([xoC x (ta 0) (aj 0) (me 0) sl sv (ad 0) (bd 0)] ++ txW ta X S τ) H := hP
        exact u_out ht hlocks a1 a2 a3 hP hS ⟨Nat.le_of_ble_eq_true rfl, Nat.le_of_ble_eq_true rfl⟩ (⟨Or.inr ⟨by omega, by omega, rfl⟩, rfl⟩)
      · have _ := c_3
        refine lv_iconst (v := iI 1) hx hb dX9_append_31 (by decide) ?_
        refine lv_goto (tgt := 36) hx hb dX9_append_32 (by decide) ?_
        refine ro_S (As := [Value.int (iI 1)]) (rest := []) (v := none) ⟨hx, hb, hml, hown, hts⟩ (c_X9_mustBeFree l g τ) gX9_append_X9_mustBeFree cd_X9_mustBeFree rfl ⟨rfl, rfl⟩ ⟨Nat.le_of_ble_eq_true rfl, Nat.le_of_ble_eq_true rfl⟩ hK (fun _ _ h => nomatch h) rfl hl rfl (Nat.le_of_ble_eq_true rfl) dX9_append_36 ⟨Nat.le_of_ble_eq_true rfl, Nat.le_of_ble_eq_true rfl⟩ ?_
        refine tl_none ?_
        refine lv_aload_n hx hb dX9_append_39 rfl (lv_at hl 0 rfl) ?_
        refine va_get (D := g) (ci := 9) (v := Value.ref (ta 0)) (C := RX9) (T := TX9) (N := 7) hx hb hts in_X9_append_X9 hown hK.1 hP_x 0 (rfl) rfl 0 (by decide) (hts _ (List.mem_of_getElem? (i := 1) rfl) : (Cond.fieldLink RX9 10 "CordSeals" "text" "LCordSeals$Text;").before _ s = true) (fun _ h9 => h9) rfl dX9_append_40 ?_
        refine lv_iload_n hx hb dX9_append_43 rfl (lv_at hl 1 rfl) ?_
        refine lv_i2c (v := iI c1) hx hb dX9_append_44 (i2c_iI ⟨by omega, by omega⟩) ?_
        refine rq_V (As := [Value.int (iI c1)]) (rest := []) ⟨hx, hb, hml, hown, hts⟩ (c_X7_add l g τ ta X S hS2 hL c1 ⟨by omega, by omega⟩) gX9_append_X7_add cd_X7_add rfl rfl ⟨rfl, rfl⟩ ⟨Nat.le_of_ble_eq_true rfl, Nat.le_of_ble_eq_true rfl⟩ hK hP hD hS (pm2_1 _ _) 0 rfl rfl rfl rfl hl rfl (Nat.le_of_ble_eq_true rfl) dX9_append_45 ⟨Nat.le_of_ble_eq_true rfl, Nat.le_of_ble_eq_true rfl⟩ (fun v w h => by rw [h.2]; exact f_txs ta _ _ _ _ _) (fun v w1 H locs hZ hP hD hS => ?_)
        obtain ⟨rfl, rfl⟩ := hZ
        have hP : va_P g vwCl ([xoC x (ta 0) (aj 0) (me 0) sl sv (ad 0) (bd 0)] ++ txW ta ((tAdd X S c1).2.1) ((tAdd X S c1).2.2) τ) H := hP.pm (pm2_1 _ _).symm
        have hD : va_D A ([xoC x (ta 0) (aj 0) (me 0) sl sv (ad 0) (bd 0)] ++ txW ta ((tAdd X S c1).2.1) ((tAdd X S c1).2.2) τ) := hD.pm (pm2_1 _ _).symm
        have hP_x := va_left hP
        have hP_X := va_right hP
        refine tl_some ?_
        exact u_iret hx hb hr hlocks hP hS ⟨Nat.le_of_ble_eq_true rfl, Nat.le_of_ble_eq_true rfl⟩ (by (have hq : tAdd X S c1 = (X 0 + 1, updZ X 0 (X 0 + 1), updZ S (X 0).toNat c1) := if_pos (by omega)); rw [hq]; exact ⟨⟨by omega, by omega⟩, rfl, rfl⟩) dX9_append_48

theorem cd_X9_enterText : cd yX9_enterText 0 := by decide +kernel
theorem in_X9_enterText_X9 : ∀ w ∈ wsX90, w ∈ wsX9_enterText := by decide +kernel
set_option maxHeartbeats 2000000 in
set_option maxRecDepth 100000 in
theorem c_X9_enterText (l : Launch) (g : va_G) (τ : Nat → ClassId) (x sl sv : Nat) (ta aj me ad bd : Nat → Nat) (R : Nat → Nat → Int) (X S : Nat → Int) (hS2 : SB S) (hL : TL X) (hI : SI R) (hX : BX X)  : Met l yX9_enterText wsX9_enterText { frames := 6, cells := 0, slots := 0, locals := 126 } (va_Pc [Value.ref x] (rwW g τ ([xoC x (ta 0) (aj 0) (me 0) sl sv (ad 0) (bd 0)] ++ (stW ad R τ ++ txW ta X S τ)))) (rwQ g (fun v w => v = some (Value.int (iI (eR X S R (tCnt X S)).2)) ∧ w = [xoC x (ta 0) (aj 0) (me 0) sl sv (ad 0) (bd 0)] ++ (stW ad ((eR X S R (tCnt X S)).1) τ ++ txW ta (tAll X S) S τ)) (inW ([xoC x (ta 0) (aj 0) (me 0) sl sv (ad 0) (bd 0)] ++ (stW ad R τ ++ txW ta X S τ)))) 0 0 (inW ([xoC x (ta 0) (aj 0) (me 0) sl sv (ad 0) (bd 0)] ++ (stW ad R τ ++ txW ta X S τ))) := by
  refine rwMet (cc := cX9_enterText) (maxL := 3) (ret := (some .int)) (lv := [(0, Value.ref x)]) (by decide) rfl (Nat.le_of_ble_eq_true rfl) rfl ?_
  intro p e s m below meth c hx hb hr hml hts hown hlocks A H hP hD hS hK ls hl
  have hP_x := va_left hP
  have hP_s := va_left (va_right hP)
  have hP_X := va_right (va_right hP)
  refine lv_iconst (v := iI 0) hx hb dX9_enterText_0 (by decide) ?_
  refine lv_istore_n (lv' := [(1, Value.int (iI 0)), (0, Value.ref x)]) hx hb dX9_enterText_1 rfl hl (by decide) rfl (fun ls hl => ?_)
  refine lv_aload_n hx hb dX9_enterText_2 rfl (lv_at hl 1 rfl) ?_
  refine va_get (D := g) (ci := 9) (v := Value.ref (ta 0)) (C := RX9) (T := TX9) (N := 7) hx hb hts in_X9_enterText_X9 hown hK.1 hP_x 0 (rfl) rfl 0 (by decide) (hts _ (List.mem_of_getElem? (i := 1) rfl) : (Cond.fieldLink RX9 10 "CordSeals" "text" "LCordSeals$Text;").before _ s = true) (fun _ h9 => h9) rfl dX9_enterText_3 ?_
  refine rq_V (As := []) (rest := []) ⟨hx, hb, hml, hown, hts⟩ (c_X7_toStart l g τ ta X S hS2 hL ) gX9_enterText_X7_toStart cd_X7_toStart rfl rfl ⟨rfl, rfl⟩ ⟨Nat.le_of_ble_eq_true rfl, Nat.le_of_ble_eq_true rfl⟩ hK hP hD hS (pm3_2 _ _ _) 0 rfl rfl rfl rfl hl rfl (Nat.le_of_ble_eq_true rfl) dX9_enterText_6 ⟨Nat.le_of_ble_eq_true rfl, Nat.le_of_ble_eq_true rfl⟩ (fun v w h => by rw [h.2]; exact f_txs ta _ _ _ _ _) (fun v w1 H locs hZ hP hD hS => ?_)
  obtain ⟨rfl, rfl⟩ := hZ
  have hP : va_P g vwCl ([xoC x (ta 0) (aj 0) (me 0) sl sv (ad 0) (bd 0)] ++ (stW ad R τ ++ txW ta (tLoop X S 0) S τ)) H := hP.pm (pm3_2 _ _ _).symm
  have hD : va_D A ([xoC x (ta 0) (aj 0) (me 0) sl sv (ad 0) (bd 0)] ++ (stW ad R τ ++ txW ta (tLoop X S 0) S τ)) := hD.pm (pm3_2 _ _ _).symm
  have hP_x := va_left hP
  have hP_s := va_left (va_right hP)
  have hP_X := va_right (va_right hP)
  refine tl_none ?_
  refine lv_iconst (v := iI 0) hx hb dX9_enterText_9 (by decide) ?_
  refine lv_istore_n (lv' := [(2, Value.int (iI 0)), (1, Value.int (iI 0)), (0, Value.ref x)]) hx hb dX9_enterText_10 rfl hl (by decide) rfl (fun ls hl => ?_)
  have h0_1 : (eR X S R 0).2 = 0 := rfl
  have hP : va_P g vwCl ([xoC x (ta 0) (aj 0) (me 0) sl sv (ad 0) (bd 0)] ++ (stW ad ((eR X S R 0).1) τ ++ txW ta (tLoop X S 0) S τ)) H := by first | exact hP | (exact hP)
  have hD : va_D A ([xoC x (ta 0) (aj 0) (me 0) sl sv (ad 0) (bd 0)] ++ (stW ad ((eR X S R 0).1) τ ++ txW ta (tLoop X S 0) S τ)) := by first | exact hD | (exact hD)
  refine lp_upW (fun i => [(2, Value.int (iI (i : Int))), (1, Value.int (iI ((eR X S R i).2))), (0, Value.ref x)]) (fun i => [xoC x (ta 0) (aj 0) (me 0) sl sv (ad 0) (bd 0)] ++ (stW ad ((eR X S R i).1) τ ++ txW ta (tLoop X S i) S τ)) (fun i => ∀ j, j < i → (!(tNext (tLoop X S j) S).1) = false) (120) (0) (by omega) hP hD hS (by first | trivial | (intro j hj; omega)) (lv_eq (lv_sub hl [0, 1, 2] rfl) (by show [(2, Value.int (iI 0)), (1, Value.int (iI ((eR X S R 0).2))), (0, Value.ref x)] = [(2, Value.int (iI 0)), (1, Value.int (iI 0)), (0, Value.ref x)]; rw [h0_1])) (fun i h0_i hi_i hI_i ih_11 H locs hP hD hS ls hl => ?_)
  have hP_x := va_left hP
  have hP_s := va_left (va_right hP)
  have hP_X := va_right (va_right hP)
  have heb := eR_b X S R i
  refine lv_iload_n hx hb dX9_enterText_11 rfl (lv_at hl 0 rfl) ?_
  refine lv_bipush (v := iI 120) hx hb dX9_enterText_12 (by decide) ?_
  refine zi_icmp_ge (tgt := 50) hx hb ⟨by omega, by omega⟩ ⟨by decide, by decide⟩ dX9_enterText_14 (by decide) (fun c_2 => ?_) (fun c_2 => ?_)
  · have _ := c_2
    have h120 : i = 120 := by omega
    have hc : tCnt X S = 120 := by subst h120; exact fst_none hI_i
    have hal : tAll X S = tLoop X S i := by subst h120; rw [tAll, hc, if_neg (by omega)]
    refine lv_iload_n hx hb dX9_enterText_50 rfl (lv_at hl 1 rfl) ?_
    exact rw_iret hx hb hr hlocks hP hS (by rw [hc, hal]; first | exact ⟨rfl, rfl⟩ | (subst h120; exact ⟨rfl, rfl⟩)) dX9_enterText_51
  · have _ := c_2
    have hl_i : i < 120 := by omega
    refine lv_aload_n hx hb dX9_enterText_17 rfl (lv_at hl 2 rfl) ?_
    refine va_get (D := g) (ci := 9) (v := Value.ref (ta 0)) (C := RX9) (T := TX9) (N := 7) hx hb hts in_X9_enterText_X9 hown hK.1 hP_x 0 (rfl) rfl 0 (by decide) (hts _ (List.mem_of_getElem? (i := 1) rfl) : (Cond.fieldLink RX9 10 "CordSeals" "text" "LCordSeals$Text;").before _ s = true) (fun _ h9 => h9) rfl dX9_enterText_18 ?_
    refine rq_V (As := []) (rest := []) ⟨hx, hb, hml, hown, hts⟩ (c_X7_readNext l g τ ta (tLoop X S i) S hS2 (tLoop_ok hL i)) gX9_enterText_X7_readNext cd_X7_readNext rfl rfl ⟨rfl, rfl⟩ ⟨Nat.le_of_ble_eq_true rfl, Nat.le_of_ble_eq_true rfl⟩ hK hP hD hS (pm3_2 _ _ _) 0 rfl rfl rfl rfl hl rfl (Nat.le_of_ble_eq_true rfl) dX9_enterText_21 ⟨Nat.le_of_ble_eq_true rfl, Nat.le_of_ble_eq_true rfl⟩ (fun v w h => by rw [h.2]; exact f_txs ta _ _ _ _ _) (fun v w1 H locs hZ hP hD hS => ?_)
    obtain ⟨rfl, rfl⟩ := hZ
    have hP : va_P g vwCl ([xoC x (ta 0) (aj 0) (me 0) sl sv (ad 0) (bd 0)] ++ (stW ad ((eR X S R i).1) τ ++ txW ta (tLoop X S (i + 1)) S τ)) H := hP.pm (pm3_2 _ _ _).symm
    have hD : va_D A ([xoC x (ta 0) (aj 0) (me 0) sl sv (ad 0) (bd 0)] ++ (stW ad ((eR X S R i).1) τ ++ txW ta (tLoop X S (i + 1)) S τ)) := hD.pm (pm3_2 _ _ _).symm
    have hP_x := va_left hP
    have hP_s := va_left (va_right hP)
    have hP_X := va_right (va_right hP)
    refine tl_some ?_
    refine zb_if_eq (tgt := 50) hx hb dX9_enterText_24 (by decide) (fun c_3 => ?_) (fun c_3 => ?_)
    · have _ := c_3
      have hc : tCnt X S = i := fst_some hI_i (by rw [show (tNext (tLoop X S i) S).1 = false from by assumption]; rfl) hl_i
      have hal : tAll X S = tLoop X S (i + 1) := by rw [tAll, hc, if_pos hl_i]; rfl
      refine lv_iload_n hx hb dX9_enterText_50 rfl (lv_at hl 1 rfl) ?_
      exact rw_iret hx hb hr hlocks hP hS (by rw [hc, hal]; first | exact ⟨rfl, rfl⟩ | (subst h120; exact ⟨rfl, rfl⟩)) dX9_enterText_51
    · have _ := c_3
      refine lv_aload_n hx hb dX9_enterText_27 rfl (lv_at hl 2 rfl) ?_
      refine va_get (D := g) (ci := 9) (v := Value.ref (ad 0)) (C := RX9) (T := TX9) (N := 7) hx hb hts in_X9_enterText_X9 hown hK.1 hP_x 0 (rfl) rfl 5 (by decide) (hts _ (List.mem_of_getElem? (i := 2) rfl) : (Cond.fieldLink RX9 41 "CordSeals" "state" "LCordSeals$State;").before _ s = true) (fun _ h9 => h9) rfl dX9_enterText_28 ?_
      refine lv_aload_n hx hb dX9_enterText_31 rfl (lv_at hl 2 rfl) ?_
      refine va_get (D := g) (ci := 9) (v := Value.ref (ta 0)) (C := RX9) (T := TX9) (N := 7) hx hb hts in_X9_enterText_X9 hown hK.1 hP_x 0 (rfl) rfl 0 (by decide) (hts _ (List.mem_of_getElem? (i := 1) rfl) : (Cond.fieldLink RX9 10 "CordSeals" "text" "LCordSeals$Text;").before _ s = true) (fun _ h9 => h9) rfl dX9_enterText_32 ?_
      refine rq_V (As := [Value.ref (ta 0)]) (rest := []) ⟨hx, hb, hml, hown, hts⟩ (c_X6_enter l g τ ad ta ((eR X S R i).1) (tLoop X S (i + 1)) S (eR_SI hI X S i) (fun k => by have := BX_loop hS2 hX hL (i + 1) k; omega)) gX9_enterText_X6_enter cd_X6_enter rfl rfl ⟨rfl, rfl⟩ ⟨Nat.le_of_ble_eq_true rfl, Nat.le_of_ble_eq_true rfl⟩ hK hP hD hS (pm3_12 _ _ _) 0 rfl rfl rfl rfl hl rfl (Nat.le_of_ble_eq_true rfl) dX9_enterText_35 ⟨Nat.le_of_ble_eq_true rfl, Nat.le_of_ble_eq_true rfl⟩ (fun v w h => by rw [h.2]; exact f_sX ad ta _ _ _ _ _) (fun v w1 H locs hZ hP hD hS => ?_)
      obtain ⟨rfl, rfl⟩ := hZ
      have hP : va_P g vwCl ([xoC x (ta 0) (aj 0) (me 0) sl sv (ad 0) (bd 0)] ++ (stW ad ((aEnter ((eR X S R i).1) (tLoop X S (i + 1))).2) τ ++ txW ta (tLoop X S (i + 1)) S τ)) H := hP.pm (pm3_12 _ _ _).symm
      have hD : va_D A ([xoC x (ta 0) (aj 0) (me 0) sl sv (ad 0) (bd 0)] ++ (stW ad ((aEnter ((eR X S R i).1) (tLoop X S (i + 1))).2) τ ++ txW ta (tLoop X S (i + 1)) S τ)) := hD.pm (pm3_12 _ _ _).symm
      have hP_x := va_left hP
      have hP_s := va_left (va_right hP)
      have hP_X := va_right (va_right hP)
      refine tl_some ?_
      have hra := aEnter_r (eR_SI hI X S i) (tLoop X S (i + 1))
      refine zi_if_ge (tgt := 44) hx hb ⟨by omega, by omega⟩ dX9_enterText_38 (by decide) (fun c_4 => ?_) (fun c_4 => ?_)
      · have _ := c_4
        refine zi_inc (v := ((i + 1 : Nat) : Int)) (lv' := [(2, Value.int (iI ((i + 1 : Nat) : Int))), (1, Value.int (iI ((eR X S R i).2))), (0, Value.ref x)]) hx hb dX9_enterText_44 hl (k := 0) rfl (by omega) (by decide) rfl (fun ls hl => ?_)
        refine lv_goto (tgt := 11) hx hb dX9_enterText_47 (by decide) ?_
        have hb_5 : (((i + 1) : Nat) : Int) = ((i + 1 : Nat) : Int) := by first | rfl | omega | (simp [c_2, c_3, c_4]; done)
        have hb_6 : (eR X S R (i + 1)).2 = (eR X S R i).2 := by show (eR X S R i).2 + (if (aEnter (eR X S R i).1 (tLoop X S (i + 1))).1 < 0 then 1 else 0) = _; first | (rw [if_pos (by omega)]; done) | (rw [if_neg (by omega)]; omega)
        have hw_7 : [xoC x (ta 0) (aj 0) (me 0) sl sv (ad 0) (bd 0)] ++ (stW ad ((aEnter ((eR X S R i).1) (tLoop X S (i + 1))).2) τ ++ txW ta (tLoop X S (i + 1)) S τ) = [xoC x (ta 0) (aj 0) (me 0) sl sv (ad 0) (bd 0)] ++ (stW ad ((eR X S R (i + 1)).1) τ ++ txW ta (tLoop X S (i + 1)) S τ) := rfl
        rw [hw_7] at hP hD
        exact ih_11 hl_i (lt_step hI_i (by rw [show (tNext (tLoop X S i) S).1 = true from by assumption]; rfl)) _ _ _ hP hD hS (lv_eq (lv_sub hl [0, 1, 2] rfl) (by show [(2, Value.int (iI (((i + 1) : Nat) : Int))), (1, Value.int (iI ((eR X S R (i + 1)).2))), (0, Value.ref x)] = [(2, Value.int (iI ((i + 1 : Nat) : Int))), (1, Value.int (iI ((eR X S R i).2))), (0, Value.ref x)]; rw [hb_5, hb_6]))
      · have _ := c_4
        refine zi_inc (v := ((eR X S R i).2) + 1) (lv' := [(1, Value.int (iI (((eR X S R i).2) + 1))), (2, Value.int (iI (i : Int))), (0, Value.ref x)]) hx hb dX9_enterText_41 hl (k := 1) rfl rfl (by decide) rfl (fun ls hl => ?_)
        refine zi_inc (v := ((i + 1 : Nat) : Int)) (lv' := [(2, Value.int (iI ((i + 1 : Nat) : Int))), (1, Value.int (iI (((eR X S R i).2) + 1))), (0, Value.ref x)]) hx hb dX9_enterText_44 hl (k := 1) rfl (by omega) (by decide) rfl (fun ls hl => ?_)
        refine lv_goto (tgt := 11) hx hb dX9_enterText_47 (by decide) ?_
        have hb_8 : (((i + 1) : Nat) : Int) = ((i + 1 : Nat) : Int) := by first | rfl | omega | (simp [c_2, c_3, c_4]; done)
        have hb_9 : (eR X S R (i + 1)).2 = ((eR X S R i).2) + 1 := by show (eR X S R i).2 + (if (aEnter (eR X S R i).1 (tLoop X S (i + 1))).1 < 0 then 1 else 0) = _; first | (rw [if_pos (by omega)]; done) | (rw [if_neg (by omega)]; omega)
        have hw_10 : [xoC x (ta 0) (aj 0) (me 0) sl sv (ad 0) (bd 0)] ++ (stW ad ((aEnter ((eR X S R i).1) (tLoop X S (i + 1))).2) τ ++ txW ta (tLoop X S (i + 1)) S τ) = [xoC x (ta 0) (aj 0) (me 0) sl sv (ad 0) (bd 0)] ++ (stW ad ((eR X S R (i + 1)).1) τ ++ txW ta (tLoop X S (i + 1)) S τ) := rfl
        rw [hw_10] at hP hD
        exact ih_11 hl_i (lt_step hI_i (by rw [show (tNext (tLoop X S i) S).1 = true from by assumption]; rfl)) _ _ _ hP hD hS (lv_eq (lv_sub hl [0, 1, 2] rfl) (by show [(2, Value.int (iI (((i + 1) : Nat) : Int))), (1, Value.int (iI ((eR X S R (i + 1)).2))), (0, Value.ref x)] = [(2, Value.int (iI ((i + 1 : Nat) : Int))), (1, Value.int (iI (((eR X S R i).2) + 1))), (0, Value.ref x)]; rw [hb_8, hb_9]))

theorem cd_X9_load : cd yX9_load 0 := by decide +kernel
theorem in_X9_load_X9 : ∀ w ∈ wsX90, w ∈ wsX9_load := by decide +kernel
set_option maxHeartbeats 2000000 in
set_option maxRecDepth 100000 in
theorem c_X9_load (l : Launch) (hst : l.stackTraces = false) (g : va_G) (τ : Nat → ClassId) (x sl sv : Nat) (ta aj me ad bd : Nat → Nat) (R : Nat → Nat → Int) (n o : Int) (rg : Nat → Option Nat) (X S : Nat → Int) (hS2 : SB S) (hL : TL X) (V : Nat → Int) (hI : SI R) (hX : BX X)  : uMet l yX9_load wsX9_load { frames := 7, cells := 1, slots := 6, locals := 148 } g τ [Value.ref x] ([xoC x (ta 0) (aj 0) (me 0) sl sv (ad 0) (bd 0)] ++ (stW ad R τ ++ (meW me n o rg τ ++ (txW ta X S τ ++ [svC sv V τ])))) (fun v w => tErr X S = -1 ∧ v = some (Value.int (iI (eR (tAll X S) S (R00 R) (tCnt (tAll X S) S)).2)) ∧ w = [xoC x (ta 0) (aj 0) (me 0) sl sv (ad 0) (bd 0)] ++ (stW ad ((eR (tAll X S) S (R00 R) (tCnt (tAll X S) S)).1) τ ++ (meW me 0 o rg τ ++ (txW ta (tAll (tAll X S) S) S τ ++ [svC sv (zf V 2) τ])))) (fun E w => ¬ tErr X S = -1 ∧ E = "java/lang/IllegalStateException" ∧ w = [xoC x (ta 0) (aj 0) (me 0) sl sv (ad 0) (bd 0)] ++ (stW ad R τ ++ (meW me n o rg τ ++ (txW ta (tAll X S) S τ ++ [svC sv V τ])))) := by
  have hAT := tAll_ok (S := S) hL
  have her : -1 ≤ tErr X S ∧ tErr X S < 65536 := by (have h9 := hAT.1); (have h8 := hAT.2.1); (have h7 := hAT.2.2.1); unfold tErr; split <;> omega
  refine uMet_of (cc := cX9_load) (maxL := 2) (ret := (some .int)) (lv := [(0, Value.ref x)]) (by decide) rfl (Nat.le_of_ble_eq_true rfl) rfl ?_
  intro p e s m below meth c hx hb hr hml hts hown hlocks ht A H hP hD hS hK hZT hZU ls hl
  have hP_x := va_left hP
  have hP_s := va_left (va_right hP)
  have hP_m := va_left (va_right (va_right hP))
  have hP_X := va_left (va_right (va_right (va_right hP)))
  have hP_v := va_right (va_right (va_right (va_right hP)))
  refine lv_aload_n hx hb dX9_load_0 rfl (lv_at hl 0 rfl) ?_
  refine va_get (D := g) (ci := 9) (v := Value.ref (ta 0)) (C := RX9) (T := TX9) (N := 7) hx hb hts in_X9_load_X9 hown hK.1 hP_x 0 (rfl) rfl 0 (by decide) (hts _ (List.mem_of_getElem? (i := 1) rfl) : (Cond.fieldLink RX9 10 "CordSeals" "text" "LCordSeals$Text;").before _ s = true) (fun _ h9 => h9) rfl dX9_load_1 ?_
  refine rq_V (As := []) (rest := []) ⟨hx, hb, hml, hown, hts⟩ (c_X7_firstError l g τ ta X S hS2 hL ) gX9_load_X7_firstError cd_X7_firstError rfl rfl ⟨rfl, rfl⟩ ⟨Nat.le_of_ble_eq_true rfl, Nat.le_of_ble_eq_true rfl⟩ hK hP hD hS (pm5_3 _ _ _ _ _) 0 rfl rfl rfl rfl hl rfl (Nat.le_of_ble_eq_true rfl) dX9_load_4 ⟨Nat.le_of_ble_eq_true rfl, Nat.le_of_ble_eq_true rfl⟩ (fun v w h => by rw [h.2]; exact f_txs ta _ _ _ _ _) (fun v w1 H locs hZ hP hD hS => ?_)
  obtain ⟨rfl, rfl⟩ := hZ
  have hP : va_P g vwCl ([xoC x (ta 0) (aj 0) (me 0) sl sv (ad 0) (bd 0)] ++ (stW ad R τ ++ (meW me n o rg τ ++ (txW ta (tAll X S) S τ ++ [svC sv V τ])))) H := hP.pm (pm5_3 _ _ _ _ _).symm
  have hD : va_D A ([xoC x (ta 0) (aj 0) (me 0) sl sv (ad 0) (bd 0)] ++ (stW ad R τ ++ (meW me n o rg τ ++ (txW ta (tAll X S) S τ ++ [svC sv V τ])))) := hD.pm (pm5_3 _ _ _ _ _).symm
  have hP_x := va_left hP
  have hP_s := va_left (va_right hP)
  have hP_m := va_left (va_right (va_right hP))
  have hP_X := va_left (va_right (va_right (va_right hP)))
  have hP_v := va_right (va_right (va_right (va_right hP)))
  refine tl_some ?_
  refine lv_iconst (v := iI (-1)) hx hb dX9_load_7 (by decide) ?_
  refine zi_icmp_ne (tgt := 15) hx hb ⟨by omega, by omega⟩ ⟨by decide, by decide⟩ dX9_load_8 (by decide) (fun c_1 => ?_) (fun c_1 => ?_)
  · have _ := c_1
    refine lv_iconst (v := iI 0) hx hb dX9_load_15 (by decide) ?_
    refine xr_S (As := [Value.int (iI 0)]) (rest := []) ⟨hx, hb, hml, hown, hts⟩ (x_X9_mustBeFree l hst g τ) gX9_load_X9_mustBeFree cd_X9_mustBeFree rfl ⟨rfl, rfl⟩ ⟨Nat.le_of_ble_eq_true rfl, Nat.le_of_ble_eq_true rfl⟩ hK hZT hZU hP hD hS [] rfl rfl rfl hl rfl (Nat.le_of_ble_eq_true rfl) dX9_load_16 ⟨Nat.le_of_ble_eq_true rfl, Nat.le_of_ble_eq_true rfl⟩ (fun w1 h => by rw [h]) (fun w1 H locs q9 ce9 hZ hP hD hS a1 a2 a3 => ?_)
    subst hZ
    have hP : va_P g vwCl ([xoC x (ta 0) (aj 0) (me 0) sl sv (ad 0) (bd 0)] ++ (stW ad R τ ++ (meW me n o rg τ ++ (txW ta (tAll X S) S τ ++ [svC sv V τ])))) H := hP
    exact u_out ht hlocks a1 a2 a3 hP hS ⟨Nat.le_of_ble_eq_true rfl, Nat.le_of_ble_eq_true rfl⟩ (⟨by omega, rfl, rfl⟩)
  · have _ := c_1
    refine lv_iconst (v := iI 1) hx hb dX9_load_11 (by decide) ?_
    refine lv_goto (tgt := 16) hx hb dX9_load_12 (by decide) ?_
    refine ro_S (As := [Value.int (iI 1)]) (rest := []) (v := none) ⟨hx, hb, hml, hown, hts⟩ (c_X9_mustBeFree l g τ) gX9_load_X9_mustBeFree cd_X9_mustBeFree rfl ⟨rfl, rfl⟩ ⟨Nat.le_of_ble_eq_true rfl, Nat.le_of_ble_eq_true rfl⟩ hK (fun _ _ h => nomatch h) rfl hl rfl (Nat.le_of_ble_eq_true rfl) dX9_load_16 ⟨Nat.le_of_ble_eq_true rfl, Nat.le_of_ble_eq_true rfl⟩ ?_
    refine tl_none ?_
    refine lv_aload_n hx hb dX9_load_19 rfl (lv_at hl 0 rfl) ?_
    refine va_get (D := g) (ci := 9) (v := Value.ref (ad 0)) (C := RX9) (T := TX9) (N := 7) hx hb hts in_X9_load_X9 hown hK.1 hP_x 0 (rfl) rfl 5 (by decide) (hts _ (List.mem_of_getElem? (i := 2) rfl) : (Cond.fieldLink RX9 41 "CordSeals" "state" "LCordSeals$State;").before _ s = true) (fun _ h9 => h9) rfl dX9_load_20 ?_
    refine rq_V (As := []) (rest := []) ⟨hx, hb, hml, hown, hts⟩ (c_X6_makeEmpty l g τ ad R) gX9_load_X6_makeEmpty cd_X6_makeEmpty rfl rfl ⟨rfl, rfl⟩ ⟨Nat.le_of_ble_eq_true rfl, Nat.le_of_ble_eq_true rfl⟩ hK hP hD hS (pm5_1 _ _ _ _ _) 0 rfl rfl rfl rfl hl rfl (Nat.le_of_ble_eq_true rfl) dX9_load_23 ⟨Nat.le_of_ble_eq_true rfl, Nat.le_of_ble_eq_true rfl⟩ (fun v w h => by rw [h.2]; exact f_stx ad ta _ _ _) (fun v w1 H locs hZ hP hD hS => ?_)
    obtain ⟨rfl, rfl⟩ := hZ
    have hP : va_P g vwCl ([xoC x (ta 0) (aj 0) (me 0) sl sv (ad 0) (bd 0)] ++ (stW ad (R00 R) τ ++ (meW me n o rg τ ++ (txW ta (tAll X S) S τ ++ [svC sv V τ])))) H := hP.pm (pm5_1 _ _ _ _ _).symm
    have hD : va_D A ([xoC x (ta 0) (aj 0) (me 0) sl sv (ad 0) (bd 0)] ++ (stW ad (R00 R) τ ++ (meW me n o rg τ ++ (txW ta (tAll X S) S τ ++ [svC sv V τ])))) := hD.pm (pm5_1 _ _ _ _ _).symm
    have hP_x := va_left hP
    have hP_s := va_left (va_right hP)
    have hP_m := va_left (va_right (va_right hP))
    have hP_X := va_left (va_right (va_right (va_right hP)))
    have hP_v := va_right (va_right (va_right (va_right hP)))
    refine tl_none ?_
    refine lv_aload_n hx hb dX9_load_26 rfl (lv_at hl 0 rfl) ?_
    refine va_get (D := g) (ci := 9) (v := Value.ref (me 0)) (C := RX9) (T := TX9) (N := 7) hx hb hts in_X9_load_X9 hown hK.1 hP_x 0 (rfl) rfl 2 (by decide) (hts _ (List.mem_of_getElem? (i := 3) rfl) : (Cond.fieldLink RX9 26 "CordSeals" "memory" "LCordSeals$Memory;").before _ s = true) (fun _ h9 => h9) rfl dX9_load_27 ?_
    refine rq_V (As := []) (rest := []) ⟨hx, hb, hml, hown, hts⟩ (c_X2_forget2 l g τ me n o rg) gX9_load_X2_forget cd_X2_forget rfl rfl ⟨rfl, rfl⟩ ⟨Nat.le_of_ble_eq_true rfl, Nat.le_of_ble_eq_true rfl⟩ hK hP hD hS (pm5_2 _ _ _ _ _) 0 rfl rfl rfl rfl hl rfl (Nat.le_of_ble_eq_true rfl) dX9_load_30 ⟨Nat.le_of_ble_eq_true rfl, Nat.le_of_ble_eq_true rfl⟩ (fun v w h => by rw [h.2]; rfl) (fun v w1 H locs hZ hP hD hS => ?_)
    obtain ⟨rfl, rfl⟩ := hZ
    have hP : va_P g vwCl ([xoC x (ta 0) (aj 0) (me 0) sl sv (ad 0) (bd 0)] ++ (stW ad (R00 R) τ ++ (meW me 0 o rg τ ++ (txW ta (tAll X S) S τ ++ [svC sv V τ])))) H := hP.pm (pm5_2 _ _ _ _ _).symm
    have hD : va_D A ([xoC x (ta 0) (aj 0) (me 0) sl sv (ad 0) (bd 0)] ++ (stW ad (R00 R) τ ++ (meW me 0 o rg τ ++ (txW ta (tAll X S) S τ ++ [svC sv V τ])))) := hD.pm (pm5_2 _ _ _ _ _).symm
    have hP_x := va_left hP
    have hP_s := va_left (va_right hP)
    have hP_m := va_left (va_right (va_right hP))
    have hP_X := va_left (va_right (va_right (va_right hP)))
    have hP_v := va_right (va_right (va_right (va_right hP)))
    refine tl_none ?_
    refine lv_iconst (v := iI 0) hx hb dX9_load_33 (by decide) ?_
    refine lv_istore_n (lv' := [(1, Value.int (iI 0)), (0, Value.ref x)]) hx hb dX9_load_34 rfl hl (by decide) rfl (fun ls hl => ?_)
    have hP : va_P g vwCl ([xoC x (ta 0) (aj 0) (me 0) sl sv (ad 0) (bd 0)] ++ (stW ad (R00 R) τ ++ (meW me 0 o rg τ ++ (txW ta (tAll X S) S τ ++ [svC sv (zf V 0) τ])))) H := by first | exact hP | (rw [zf_0]; exact hP)
    have hD : va_D A ([xoC x (ta 0) (aj 0) (me 0) sl sv (ad 0) (bd 0)] ++ (stW ad (R00 R) τ ++ (meW me 0 o rg τ ++ (txW ta (tAll X S) S τ ++ [svC sv (zf V 0) τ])))) := by first | exact hD | (rw [zf_0]; exact hD)
    refine lp_upW (fun i => [(1, Value.int (iI (i : Int))), (0, Value.ref x)]) (fun i => [xoC x (ta 0) (aj 0) (me 0) sl sv (ad 0) (bd 0)] ++ (stW ad (R00 R) τ ++ (meW me 0 o rg τ ++ (txW ta (tAll X S) S τ ++ [svC sv (zf V i) τ])))) (fun i => True) (2) (0) (by omega) hP hD hS (by first | trivial | (intro j hj; omega)) (lv_eq (lv_sub hl [0, 1] rfl) (by show [(1, Value.int (iI 0)), (0, Value.ref x)] = [(1, Value.int (iI 0)), (0, Value.ref x)]; rfl)) (fun i h0_i hi_i hI_i ih_35 H locs hP hD hS ls hl => ?_)
    have hP_x := va_left hP
    have hP_s := va_left (va_right hP)
    have hP_m := va_left (va_right (va_right hP))
    have hP_X := va_left (va_right (va_right (va_right hP)))
    have hP_v := va_right (va_right (va_right (va_right hP)))
    refine lv_iload_n hx hb dX9_load_35 rfl (lv_at hl 0 rfl) ?_
    refine lv_iconst (v := iI 2) hx hb dX9_load_36 (by decide) ?_
    refine zi_icmp_ge (tgt := 53) hx hb ⟨by omega, by omega⟩ ⟨by decide, by decide⟩ dX9_load_37 (by decide) (fun c_2 => ?_) (fun c_2 => ?_)
    · have _ := c_2
      have h0_i : i = 2 := by omega
      rw [h0_i] at hP hD
      have hP_x := va_left hP
      have hP_s := va_left (va_right hP)
      have hP_m := va_left (va_right (va_right hP))
      have hP_X := va_left (va_right (va_right (va_right hP)))
      have hP_v := va_right (va_right (va_right (va_right hP)))
      refine lv_aload_n hx hb dX9_load_53 rfl (lv_at hl 1 rfl) ?_
      refine rq_V (As := []) (rest := []) ⟨hx, hb, hml, hown, hts⟩ (c_X9_enterText l g τ x sl sv ta aj me ad bd (R00 R) (tAll X S) S hS2 (TI_TL hAT) (SI_00 hI) (BX_all hS2 hX hL)) gX9_load_X9_enterText cd_X9_enterText rfl rfl ⟨rfl, rfl⟩ ⟨Nat.le_of_ble_eq_true rfl, Nat.le_of_ble_eq_true rfl⟩ hK hP hD hS (pm5_013 _ _ _ _ _) 0 rfl rfl rfl rfl hl rfl (Nat.le_of_ble_eq_true rfl) dX9_load_54 ⟨Nat.le_of_ble_eq_true rfl, Nat.le_of_ble_eq_true rfl⟩ (fun v w h => by rw [h.2]; exact f_xsX _ _ _ _ _ _ _ _ _) (fun v w1 H locs hZ hP hD hS => ?_)
      obtain ⟨rfl, rfl⟩ := hZ
      have hP : va_P g vwCl ([xoC x (ta 0) (aj 0) (me 0) sl sv (ad 0) (bd 0)] ++ (stW ad ((eR (tAll X S) S (R00 R) (tCnt (tAll X S) S)).1) τ ++ (meW me 0 o rg τ ++ (txW ta (tAll (tAll X S) S) S τ ++ [svC sv (zf V 2) τ])))) H := hP.pm (pm5_013 _ _ _ _ _).symm
      have hD : va_D A ([xoC x (ta 0) (aj 0) (me 0) sl sv (ad 0) (bd 0)] ++ (stW ad ((eR (tAll X S) S (R00 R) (tCnt (tAll X S) S)).1) τ ++ (meW me 0 o rg τ ++ (txW ta (tAll (tAll X S) S) S τ ++ [svC sv (zf V 2) τ])))) := hD.pm (pm5_013 _ _ _ _ _).symm
      have hP_x := va_left hP
      have hP_s := va_left (va_right hP)
      have hP_m := va_left (va_right (va_right hP))
      have hP_X := va_left (va_right (va_right (va_right hP)))
      have hP_v := va_right (va_right (va_right (va_right hP)))
      refine tl_some ?_
      exact u_iret hx hb hr hlocks hP hS ⟨Nat.le_of_ble_eq_true rfl, Nat.le_of_ble_eq_true rfl⟩ (⟨by omega, rfl, rfl⟩) dX9_load_57
    · have _ := c_2
      have hl_i : i < 2 := by omega
      refine lv_aload_n hx hb dX9_load_40 rfl (lv_at hl 1 rfl) ?_
      refine va_get (D := g) (ci := 9) (v := Value.ref sv) (C := RX9) (T := TX9) (N := 7) hx hb hts in_X9_load_X9 hown hK.1 hP_x 0 (rfl) rfl 4 (by decide) (hts _ (List.mem_of_getElem? (i := 4) rfl) : (Cond.fieldLink RX9 36 "CordSeals" "saved" "[Z").before _ s = true) (fun _ h9 => h9) rfl dX9_load_41 ?_
      refine lv_iload_n hx hb dX9_load_44 rfl (lv_at hl 0 rfl) ?_
      refine lv_iconst (v := iI 0) hx hb dX9_load_45 (by decide) ?_
      refine zz_ast hx hb hK hP hD hS 26 (f := (zf V i)) (rfl) (i) (rfl) (by omega) (by decide) (⟨by decide, by decide⟩) dX9_load_46 (wo := [xoC x (ta 0) (aj 0) (me 0) sl sv (ad 0) (bd 0)] ++ (stW ad (R00 R) τ ++ (meW me 0 o rg τ ++ (txW ta (tAll X S) S τ ++ [svC sv (updZ (zf V i) i 0) τ])))) rfl (fun H locs hP hD hS => ?_)
      have hP : va_P g vwCl ([xoC x (ta 0) (aj 0) (me 0) sl sv (ad 0) (bd 0)] ++ (stW ad (R00 R) τ ++ (meW me 0 o rg τ ++ (txW ta (tAll X S) S τ ++ [svC sv (updZ (zf V i) i 0) τ])))) H := hP
      have hD : va_D A ([xoC x (ta 0) (aj 0) (me 0) sl sv (ad 0) (bd 0)] ++ (stW ad (R00 R) τ ++ (meW me 0 o rg τ ++ (txW ta (tAll X S) S τ ++ [svC sv (updZ (zf V i) i 0) τ])))) := hD
      have hP_x := va_left hP
      have hP_s := va_left (va_right hP)
      have hP_m := va_left (va_right (va_right hP))
      have hP_X := va_left (va_right (va_right (va_right hP)))
      have hP_v := va_right (va_right (va_right (va_right hP)))
      refine zi_inc (v := ((i + 1 : Nat) : Int)) (lv' := [(1, Value.int (iI ((i + 1 : Nat) : Int))), (0, Value.ref x)]) hx hb dX9_load_47 hl (k := 0) rfl (by omega) (by decide) rfl (fun ls hl => ?_)
      refine lv_goto (tgt := 35) hx hb dX9_load_50 (by decide) ?_
      have hb_3 : (((i + 1) : Nat) : Int) = ((i + 1 : Nat) : Int) := by first | rfl | omega | (simp [c_1, c_2]; done)
      have hw_4 : [xoC x (ta 0) (aj 0) (me 0) sl sv (ad 0) (bd 0)] ++ (stW ad (R00 R) τ ++ (meW me 0 o rg τ ++ (txW ta (tAll X S) S τ ++ [svC sv (updZ (zf V i) i 0) τ]))) = [xoC x (ta 0) (aj 0) (me 0) sl sv (ad 0) (bd 0)] ++ (stW ad (R00 R) τ ++ (meW me 0 o rg τ ++ (txW ta (tAll X S) S τ ++ [svC sv (zf V (i + 1)) τ]))) := by rw [← zf_s]
      rw [hw_4] at hP hD
      exact ih_35 hl_i (trivial) _ _ _ hP hD hS (lv_eq (lv_sub hl [0, 1] rfl) (by show [(1, Value.int (iI (((i + 1) : Nat) : Int))), (0, Value.ref x)] = [(1, Value.int (iI ((i + 1 : Nat) : Int))), (0, Value.ref x)]; rw [hb_3]))
