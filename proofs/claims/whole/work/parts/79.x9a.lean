/-! the class itself: its object, what its actions answer -/
def xoC (x t j m sl sv a b : Nat) : Nat × va_E := (x, .inr (9, [.ref t, .ref j, .ref m, .ref sl, .ref sv, .ref a, .ref b]))
def slC (sl : Nat) (sf : Nat → Option Nat) (τ : Nat → ClassId) : Nat × va_E := (sl, .inl (τ 4, 2, .inr (.inr (.inr (.inr sf)))))
def svC (sv : Nat) (V : Nat → Int) (τ : Nat → ClassId) : Nat × va_E := (sv, .inl (τ 1, 2, .inl (fun j => iI (V j))))
def stV (ad : Nat → Nat) : List Value := [.ref (ad 1), .ref (ad 4), .ref (ad 10), .ref (ad 17), .ref (ad 20)]
def stT (ad : Nat → Nat) (R : Nat → Nat → Int) (τ : Nat → ClassId) : va_W := (stW ad R τ).tail
theorem stW_ht (ad : Nat → Nat) (R : Nat → Nat → Int) (τ : Nat → ClassId) : stW ad R τ = [(ad 0, .inr (6, stV ad))] ++ stT ad R τ := rfl
def xEx (a : Int) (E : String) : Prop := (a = -2 ∧ E = "java/lang/IndexOutOfBoundsException") ∨ (a = -3 ∧ E = "java/lang/IllegalArgumentException") ∨ (a = -4 ∧ E = "java/lang/IllegalStateException")
abbrev mN (n : Int) : Int := if n < 14 then n + 1 else n
abbrev mO (n o : Int) : Int := if n < 14 then o else (o + 1) % 14
abbrev mR (rg : Nat → Option Nat) (n o : Int) (b : Nat) : Nat → Option Nat := va_up rg ((o + n) % 14).toNat (some b)
abbrev aOk (a : Int) : Prop := (a = -2 ∨ a = -3 ∨ a = -4 ∨ 0 ≤ a) ∧ a < 65536
theorem f_2s (ad bd : Nat → Nat) (R T R2 T2 : Nat → Nat → Int) (τ : Nat → ClassId) : (stW bd T2 τ ++ stW ad R2 τ).map Prod.fst = (stW bd T τ ++ stW ad R τ).map Prod.fst := rfl
theorem f_xst (X : Nat × va_E) (ad bd : Nat → Nat) (R T R2 T2 : Nat → Nat → Int) (τ : Nat → ClassId) : ([X] ++ (stW ad R2 τ ++ stW bd T2 τ)).map Prod.fst = ([X] ++ (stW ad R τ ++ stW bd T τ)).map Prod.fst := rfl
theorem f_xms (x t j m sl sv a b a2 b2 : Nat) (me ad : Nat → Nat) (n o n2 o2 : Int) (rg rg2 : Nat → Option Nat) (R : Nat → Nat → Int) (τ : Nat → ClassId) : ([xoC x t j m sl sv a2 b2] ++ (meW me n2 o2 rg2 τ ++ stW ad R τ)).map Prod.fst = ([xoC x t j m sl sv a b] ++ (meW me n o rg τ ++ stW ad R τ)).map Prod.fst := rfl
theorem f_meh (me : Nat → Nat) (n o n2 o2 : Int) (rg rg2 : Nat → Option Nat) (b : Nat) (vs : List Value) (τ : Nat → ClassId) : (meW me n2 o2 rg2 τ ++ ([(b, .inr (6, vs))] : va_W)).map Prod.fst = (meW me n o rg τ ++ ([(b, .inr (6, vs))] : va_W)).map Prod.fst := rfl
theorem aReign_r {R : Nat → Nat → Int} (hI : SI R) (y c : Int) : aOk (aReign R y c).1 := by
  have h := hI.r
  unfold aReign
  repeat' split
  all_goals (dsimp only [aOk]; omega)
theorem aDie_r {R : Nat → Nat → Int} (hI : SI R) (a b c : Int) : aOk (aDie R a b c).1 := by
  have h := hI.d
  unfold aDie
  repeat' split
  all_goals (dsimp only [aOk]; omega)
theorem aCrack_r {R : Nat → Nat → Int} (hI : SI R) (d y : Int) : aOk (aCrack R d y).1 := by
  unfold aCrack
  split
  · dsimp only [aOk]; omega
  · have h := hI.ds d.toNat (by omega)
    repeat' split
    all_goals (dsimp only [aOk]; omega)
theorem aSeal_r {R : Nat → Nat → Int} (hI : SI R) (d a q z x : Int) : aOk (aSeal R d a q z x).1 := by
  have h := hI.s
  unfold aSeal
  repeat' split
  all_goals (dsimp only [aOk]; omega)
theorem aShow_r {R : Nat → Nat → Int} (hI : SI R) (t x : Int) : aOk (aShow R t x).1 := by
  unfold aShow
  split
  · dsimp only [aOk]; omega
  · have h := hI.sl t.toNat (by omega)
    split
    all_goals (dsimp only [aOk]; omega)
theorem aHang_r {R : Nat → Nat → Int} (hI : SI R) (t x : Int) : aOk (aHang R t x).1 := by
  have h := hI.s
  unfold aHang
  split
  · dsimp only [aOk]; omega
  · have h2 := cnt_le (fun s => decide (updZ (R 16) t.toNat x s = x)) (R 10 0).toNat
    dsimp only [aOk]
    omega
theorem aCut_r {R : Nat → Nat → Int} (hI : SI R) (t : Int) : aOk (aCut R t).1 := by
  unfold aCut
  split
  · dsimp only [aOk]; omega
  · have h := hI.sl t.toNat (by omega)
    split
    all_goals (dsimp only [aOk]; omega)
theorem aShelve_r {R : Nat → Nat → Int} (hI : SI R) (t q k : Int) : aOk (aShelve R t q k).1 := by
  unfold aShelve
  split
  · dsimp only [aOk]; omega
  · split
    · dsimp only [aOk]; omega
    · split
      · dsimp only [aOk]; omega
      · have e := rm_18 hI (t := t) (h := q.toNat) (by omega)
        have h2 := oth_r hI q.toNat (by omega) t
        show aOk ((inR (rmR R t) q.toNat k.toNat t) 18 q.toNat)
        rw [in18_own, e]
        dsimp only [aOk]
        omega
theorem aTake_r {R : Nat → Nat → Int} (hI : SI R) (t : Int) : aOk (aTake R t).1 := by
  have h : sOf R t ≤ 6 := fst_le _ _
  unfold aTake
  repeat' split
  all_goals (dsimp only [aOk]; omega)
theorem aSet_r {R : Nat → Nat → Int} (hI : SI R) (a v : Int) : aOk (aSet R a v).1 := by
  have h := hI.hB 20 a.toNat
  have h2 := hI.w
  unfold aSet
  split
  · dsimp only [aOk]; omega
  · have h3 : a.toNat = 0 ∨ a.toNat = 1 := by omega
    dsimp only [aOk]
    rcases h3 with h3 | h3 <;> rw [h3] <;> omega
/-- sorting, as the reference says it -/
def aSrt (R : Nat → Nat → Int) (h : Int) : Int × (Nat → Nat → Int) := if h < 0 ∨ 6 ≤ h then (-2, R) else (oN R h.toNat (R 18 h.toNat).toNat, sR R h.toNat)
theorem aSort_eq {R : Nat → Nat → Int} (hI : SI R) (J : Nat → Nat → Int) (h : Int) : (aSort R J h).1 = (aSrt R h).1 ∧ (aSort R J h).2.1 = (aSrt R h).2 := by
  unfold aSort aSrt
  by_cases q : h < 0 ∨ 6 ≤ h
  · rw [if_pos q, if_pos q]
    exact ⟨rfl, rfl⟩
  · rw [if_neg q, if_neg q]
    obtain ⟨e1, e2⟩ := srt_eq (J := J) hI (h := h.toNat) (by omega)
    exact ⟨e2, e1⟩
theorem aSort_J {R J : Nat → Nat → Int} (hI : SI R) (h : Int) (hj : HB J) (hs : JSp J) : HB (aSort R J h).2.2 ∧ JSp (aSort R J h).2.2 := by
  unfold aSort
  split
  · exact ⟨hj, hs⟩
  · exact srtJ_ok hI hj hs
theorem aSrt_r {R : Nat → Nat → Int} (hI : SI R) (h : Int) : aOk (aSrt R h).1 := by
  unfold aSrt
  split
  · dsimp only [aOk]; omega
  · have h2 := hI.hN h.toNat (by omega)
    have h4 : 0 ≤ oN R h.toNat (R 18 h.toNat).toNat ∧ oN R h.toNat (R 18 h.toNat).toNat ≤ ((R 18 h.toNat).toNat : Nat) := cnt_le _ _
    dsimp only [aOk]
    omega
theorem SI_aSrt {R : Nat → Nat → Int} (hI : SI R) (h : Int) : SI (aSrt R h).2 := by
  unfold aSrt
  split
  · exact hI
  · exact SI_sR hI (by omega)

theorem pm3_ (A0 A1 A2 : va_W) : (A0 ++ (A1 ++ A2)).Perm (([]) ++ (A0 ++ (A1 ++ A2))) := by
  have e : A0 ++ (A1 ++ A2) = ([]) ++ (A0 ++ (A1 ++ A2)) := by simp only [List.append_assoc, List.nil_append, List.append_nil]
  exact Eq.mp (congrArg (List.Perm (A0 ++ (A1 ++ A2))) e) (List.Perm.refl _)

theorem pm3_21 (A0 A1 A2 : va_W) : (A0 ++ (A1 ++ A2)).Perm ((A2 ++ A1) ++ A0) := by
  have h := List.Perm.flatMap_right (fun i => ([A0, A1, A2] : List va_W).getD i []) (show List.Perm [0, 1, 2] [2, 1, 0] by decide)
  simpa [List.append_assoc] using h

theorem pm4_012 (A0 A1 A2 A3 : va_W) : (A0 ++ (A1 ++ (A2 ++ A3))).Perm ((A0 ++ (A1 ++ A2)) ++ A3) := by
  have e : A0 ++ (A1 ++ (A2 ++ A3)) = (A0 ++ (A1 ++ A2)) ++ A3 := by simp only [List.append_assoc, List.nil_append, List.append_nil]
  exact Eq.mp (congrArg (List.Perm (A0 ++ (A1 ++ (A2 ++ A3)))) e) (List.Perm.refl _)

theorem pm4_031 (A0 A1 A2 A3 : va_W) : (A0 ++ (A1 ++ (A2 ++ A3))).Perm ((A0 ++ (A3 ++ A1)) ++ A2) := by
  have h := List.Perm.flatMap_right (fun i => ([A0, A1, A2, A3] : List va_W).getD i []) (show List.Perm [0, 1, 2, 3] [0, 3, 1, 2] by decide)
  simpa [List.append_assoc] using h

theorem pm4_12 (A0 A1 A2 A3 : va_W) : (A0 ++ (A1 ++ (A2 ++ A3))).Perm ((A1 ++ A2) ++ (A0 ++ A3)) := by
  have h := List.Perm.flatMap_right (fun i => ([A0, A1, A2, A3] : List va_W).getD i []) (show List.Perm [0, 1, 2, 3] [1, 2, 0, 3] by decide)
  simpa [List.append_assoc] using h

theorem pm4_2 (A0 A1 A2 A3 : va_W) : (A0 ++ (A1 ++ (A2 ++ A3))).Perm ((A2) ++ (A0 ++ (A1 ++ A3))) := by
  have h := List.Perm.flatMap_right (fun i => ([A0, A1, A2, A3] : List va_W).getD i []) (show List.Perm [0, 1, 2, 3] [2, 0, 1, 3] by decide)
  simpa [List.append_assoc] using h

theorem pm5_012 (A0 A1 A2 A3 A4 : va_W) : (A0 ++ (A1 ++ (A2 ++ (A3 ++ A4)))).Perm ((A0 ++ (A1 ++ A2)) ++ (A3 ++ A4)) := by
  have e : A0 ++ (A1 ++ (A2 ++ (A3 ++ A4))) = (A0 ++ (A1 ++ A2)) ++ (A3 ++ A4) := by simp only [List.append_assoc, List.nil_append, List.append_nil]
  exact Eq.mp (congrArg (List.Perm (A0 ++ (A1 ++ (A2 ++ (A3 ++ A4))))) e) (List.Perm.refl _)

theorem pm5_031 (A0 A1 A2 A3 A4 : va_W) : (A0 ++ (A1 ++ (A2 ++ (A3 ++ A4)))).Perm ((A0 ++ (A3 ++ A1)) ++ (A2 ++ A4)) := by
  have h := List.Perm.flatMap_right (fun i => ([A0, A1, A2, A3, A4] : List va_W).getD i []) (show List.Perm [0, 1, 2, 3, 4] [0, 3, 1, 2, 4] by decide)
  simpa [List.append_assoc] using h

theorem pm5_42 (A0 A1 A2 A3 A4 : va_W) : (A0 ++ (A1 ++ (A2 ++ (A3 ++ A4)))).Perm ((A4 ++ A2) ++ (A0 ++ (A1 ++ A3))) := by
  have h := List.Perm.flatMap_right (fun i => ([A0, A1, A2, A3, A4] : List va_W).getD i []) (show List.Perm [0, 1, 2, 3, 4] [4, 2, 0, 1, 3] by decide)
  simpa [List.append_assoc] using h

theorem pm_rem (X M : va_W) (ad : Nat → Nat) (R : Nat → Nat → Int) (τ : Nat → ClassId) : (X ++ (M ++ stW ad R τ)).Perm ((M ++ [(ad 0, .inr (6, stV ad))]) ++ (X ++ stT ad R τ)) := by
  rw [stW_ht]
  exact pm4_12 X M [(ad 0, .inr (6, stV ad))] (stT ad R τ)
theorem pm_rec (X M : va_W) (ad : Nat → Nat) (R : Nat → Nat → Int) (τ : Nat → ClassId) : (X ++ (stW ad R τ ++ M)).Perm ((M ++ [(ad 0, .inr (6, stV ad))]) ++ (X ++ stT ad R τ)) := by
  rw [stW_ht]
  have h : (X ++ ((([(ad 0, .inr (6, stV ad))] : va_W) ++ stT ad R τ) ++ M)).Perm (X ++ (M ++ (([(ad 0, .inr (6, stV ad))] : va_W) ++ stT ad R τ))) := List.Perm.append_left X List.perm_append_comm
  exact h.trans (pm4_12 X M [(ad 0, .inr (6, stV ad))] (stT ad R τ))

theorem cd_X9_mustBeAnswer : cd yX9_mustBeAnswer 1 := by decide +kernel
set_option maxHeartbeats 1000000 in
set_option maxRecDepth 100000 in
theorem c_X9_mustBeAnswer (l : Launch) (hst : l.stackTraces = false) (g : va_G) (τ : Nat → ClassId) (a : Int) (ra : -2147483648 ≤ a ∧ a < 2147483648)  : uMet l yX9_mustBeAnswer wsX9_mustBeAnswer { frames := 7, cells := 1, slots := 6, locals := 110 } g τ [Value.int (iI a)] ([]) (fun v w => v = none ∧ w = [] ∧ ¬ a = -2 ∧ ¬ a = -3 ∧ ¬ a = -4) (fun E w => w = [] ∧ xEx a E) := by
  refine uMet_of (cc := cX9_mustBeAnswer) (maxL := 1) (ret := none) (lv := [(0, Value.int (iI a))]) (by decide) rfl (Nat.le_of_ble_eq_true rfl) rfl ?_
  intro p e s m below meth c hx hb hr hml hts hown hlocks ht A H hP hD hS hK hZT hZU ls hl
  refine lv_iload_n hx hb dX9_mustBeAnswer_0 rfl (lv_at hl 0 rfl) ?_
  refine lv_bipush (v := iI (-2)) hx hb dX9_mustBeAnswer_1 (by decide) ?_
  refine zi_icmp_eq (tgt := 10) hx hb ⟨by omega, by omega⟩ ⟨by decide, by decide⟩ dX9_mustBeAnswer_3 (by decide) (fun c_1 => ?_) (fun c_1 => ?_)
  · have _ := c_1
    refine lv_iconst (v := iI 0) hx hb dX9_mustBeAnswer_10 (by decide) ?_
    refine xr_S (As := [Value.int (iI 0)]) (rest := []) ⟨hx, hb, hml, hown, hts⟩ (x_X9_mustExist l hst g τ) gX9_mustBeAnswer_X9_mustExist cd_X9_mustExist rfl ⟨rfl, rfl⟩ ⟨Nat.le_of_ble_eq_true rfl, Nat.le_of_ble_eq_true rfl⟩ hK hZT hZU hP hD hS [] rfl rfl rfl hl rfl (Nat.le_of_ble_eq_true rfl) dX9_mustBeAnswer_11 ⟨Nat.le_of_ble_eq_true rfl, Nat.le_of_ble_eq_true rfl⟩ (fun w1 h => by rw [h]) (fun w1 H locs q9 ce9 hZ hP hD hS a1 a2 a3 => ?_)
    subst hZ
    have hP : va_P g vwCl ([]) H := hP
    exact u_out ht hlocks a1 a2 a3 hP hS ⟨Nat.le_of_ble_eq_true rfl, Nat.le_of_ble_eq_true rfl⟩ (⟨rfl, Or.inl ⟨by omega, rfl⟩⟩)
  · have _ := c_1
    refine lv_iconst (v := iI 1) hx hb dX9_mustBeAnswer_6 (by decide) ?_
    refine lv_goto (tgt := 11) hx hb dX9_mustBeAnswer_7 (by decide) ?_
    refine ro_S (As := [Value.int (iI 1)]) (rest := []) (v := none) ⟨hx, hb, hml, hown, hts⟩ (c_X9_mustExist l g τ) gX9_mustBeAnswer_X9_mustExist cd_X9_mustExist rfl ⟨rfl, rfl⟩ ⟨Nat.le_of_ble_eq_true rfl, Nat.le_of_ble_eq_true rfl⟩ hK (fun _ _ h => nomatch h) rfl hl rfl (Nat.le_of_ble_eq_true rfl) dX9_mustBeAnswer_11 ⟨Nat.le_of_ble_eq_true rfl, Nat.le_of_ble_eq_true rfl⟩ ?_
    refine tl_none ?_
    refine lv_iload_n hx hb dX9_mustBeAnswer_14 rfl (lv_at hl 0 rfl) ?_
    refine lv_bipush (v := iI (-3)) hx hb dX9_mustBeAnswer_15 (by decide) ?_
    refine zi_icmp_eq (tgt := 24) hx hb ⟨by omega, by omega⟩ ⟨by decide, by decide⟩ dX9_mustBeAnswer_17 (by decide) (fun c_2 => ?_) (fun c_2 => ?_)
    · have _ := c_2
      refine lv_iconst (v := iI 0) hx hb dX9_mustBeAnswer_24 (by decide) ?_
      refine xr_S (As := [Value.int (iI 0)]) (rest := []) ⟨hx, hb, hml, hown, hts⟩ (x_X9_mustFit l hst g τ) gX9_mustBeAnswer_X9_mustFit cd_X9_mustFit rfl ⟨rfl, rfl⟩ ⟨Nat.le_of_ble_eq_true rfl, Nat.le_of_ble_eq_true rfl⟩ hK hZT hZU hP hD hS [] rfl rfl rfl hl rfl (Nat.le_of_ble_eq_true rfl) dX9_mustBeAnswer_25 ⟨Nat.le_of_ble_eq_true rfl, Nat.le_of_ble_eq_true rfl⟩ (fun w1 h => by rw [h]) (fun w1 H locs q9 ce9 hZ hP hD hS a1 a2 a3 => ?_)
      subst hZ
      have hP : va_P g vwCl ([]) H := hP
      exact u_out ht hlocks a1 a2 a3 hP hS ⟨Nat.le_of_ble_eq_true rfl, Nat.le_of_ble_eq_true rfl⟩ (⟨rfl, Or.inr (Or.inl ⟨by omega, rfl⟩)⟩)
    · have _ := c_2
      refine lv_iconst (v := iI 1) hx hb dX9_mustBeAnswer_20 (by decide) ?_
      refine lv_goto (tgt := 25) hx hb dX9_mustBeAnswer_21 (by decide) ?_
      refine ro_S (As := [Value.int (iI 1)]) (rest := []) (v := none) ⟨hx, hb, hml, hown, hts⟩ (c_X9_mustFit l g τ) gX9_mustBeAnswer_X9_mustFit cd_X9_mustFit rfl ⟨rfl, rfl⟩ ⟨Nat.le_of_ble_eq_true rfl, Nat.le_of_ble_eq_true rfl⟩ hK (fun _ _ h => nomatch h) rfl hl rfl (Nat.le_of_ble_eq_true rfl) dX9_mustBeAnswer_25 ⟨Nat.le_of_ble_eq_true rfl, Nat.le_of_ble_eq_true rfl⟩ ?_
      refine tl_none ?_
      refine lv_iload_n hx hb dX9_mustBeAnswer_28 rfl (lv_at hl 0 rfl) ?_
      refine lv_bipush (v := iI (-4)) hx hb dX9_mustBeAnswer_29 (by decide) ?_
      refine zi_icmp_eq (tgt := 38) hx hb ⟨by omega, by omega⟩ ⟨by decide, by decide⟩ dX9_mustBeAnswer_31 (by decide) (fun c_3 => ?_) (fun c_3 => ?_)
      · have _ := c_3
        refine lv_iconst (v := iI 0) hx hb dX9_mustBeAnswer_38 (by decide) ?_
        refine xr_S (As := [Value.int (iI 0)]) (rest := []) ⟨hx, hb, hml, hown, hts⟩ (x_X9_mustBeFree l hst g τ) gX9_mustBeAnswer_X9_mustBeFree cd_X9_mustBeFree rfl ⟨rfl, rfl⟩ ⟨Nat.le_of_ble_eq_true rfl, Nat.le_of_ble_eq_true rfl⟩ hK hZT hZU hP hD hS [] rfl rfl rfl hl rfl (Nat.le_of_ble_eq_true rfl) dX9_mustBeAnswer_39 ⟨Nat.le_of_ble_eq_true rfl, Nat.le_of_ble_eq_true rfl⟩ (fun w1 h => by rw [h]) (fun w1 H locs q9 ce9 hZ hP hD hS a1 a2 a3 => ?_)
        subst hZ
        have hP : va_P g vwCl ([]) H := hP
        exact u_out ht hlocks a1 a2 a3 hP hS ⟨Nat.le_of_ble_eq_true rfl, Nat.le_of_ble_eq_true rfl⟩ (⟨rfl, Or.inr (Or.inr ⟨by omega, rfl⟩)⟩)
      · have _ := c_3
        refine lv_iconst (v := iI 1) hx hb dX9_mustBeAnswer_34 (by decide) ?_
        refine lv_goto (tgt := 39) hx hb dX9_mustBeAnswer_35 (by decide) ?_
        refine ro_S (As := [Value.int (iI 1)]) (rest := []) (v := none) ⟨hx, hb, hml, hown, hts⟩ (c_X9_mustBeFree l g τ) gX9_mustBeAnswer_X9_mustBeFree cd_X9_mustBeFree rfl ⟨rfl, rfl⟩ ⟨Nat.le_of_ble_eq_true rfl, Nat.le_of_ble_eq_true rfl⟩ hK (fun _ _ h => nomatch h) rfl hl rfl (Nat.le_of_ble_eq_true rfl) dX9_mustBeAnswer_39 ⟨Nat.le_of_ble_eq_true rfl, Nat.le_of_ble_eq_true rfl⟩ ?_
        refine tl_none ?_
        exact u_vret hx hb hr hlocks hP hS ⟨Nat.le_of_ble_eq_true rfl, Nat.le_of_ble_eq_true rfl⟩ (⟨rfl, rfl, by omega, by omega, by omega⟩) dX9_mustBeAnswer_42

theorem cd_X9_freshTrial : cd yX9_freshTrial 0 := by decide +kernel
theorem in_X9_freshTrial_X9 : ∀ w ∈ wsX90, w ∈ wsX9_freshTrial := by decide +kernel
set_option maxHeartbeats 1000000 in
set_option maxRecDepth 100000 in
theorem c_X9_freshTrial (l : Launch) (g : va_G) (τ : Nat → ClassId) (x sl sv : Nat) (ta aj me ad bd : Nat → Nat) (R T : Nat → Nat → Int)  : Met l yX9_freshTrial wsX9_freshTrial { frames := 3, cells := 0, slots := 0, locals := 62 } (va_Pc [Value.ref x] (rwW g τ ([xoC x (ta 0) (aj 0) (me 0) sl sv (ad 0) (bd 0)] ++ (stW ad R τ ++ stW bd T τ)))) (rwQ g (fun v w => v = some (Value.ref (bd 0)) ∧ w = [xoC x (ta 0) (aj 0) (me 0) sl sv (ad 0) (bd 0)] ++ (stW ad R τ ++ stW bd R τ)) (inW ([xoC x (ta 0) (aj 0) (me 0) sl sv (ad 0) (bd 0)] ++ (stW ad R τ ++ stW bd T τ)))) 0 0 (inW ([xoC x (ta 0) (aj 0) (me 0) sl sv (ad 0) (bd 0)] ++ (stW ad R τ ++ stW bd T τ))) := by
  refine rwMet (cc := cX9_freshTrial) (maxL := 1) (ret := (some (.object "CordSeals$State"))) (lv := [(0, Value.ref x)]) (by decide) rfl (Nat.le_of_ble_eq_true rfl) rfl ?_
  intro p e s m below meth c hx hb hr hml hts hown hlocks A H hP hD hS hK ls hl
  have hP_x := va_left hP
  have hP_s := va_left (va_right hP)
  have hP_t := va_right (va_right hP)
  refine lv_aload_n hx hb dX9_freshTrial_0 rfl (lv_at hl 0 rfl) ?_
  refine va_get (D := g) (ci := 9) (v := Value.ref (bd 0)) (C := RX9) (T := TX9) (N := 7) hx hb hts in_X9_freshTrial_X9 hown hK.1 hP_x 0 (rfl) rfl 6 (by decide) (hts _ (List.mem_of_getElem? (i := 1) rfl) : (Cond.fieldLink RX9 45 "CordSeals" "trial" "LCordSeals$State;").before _ s = true) (fun _ h9 => h9) rfl dX9_freshTrial_1 ?_
  refine lv_aload_n hx hb dX9_freshTrial_4 rfl (lv_at hl 0 rfl) ?_
  refine va_get (D := g) (ci := 9) (v := Value.ref (ad 0)) (C := RX9) (T := TX9) (N := 7) hx hb hts in_X9_freshTrial_X9 hown hK.1 hP_x 0 (rfl) rfl 5 (by decide) (hts _ (List.mem_of_getElem? (i := 2) rfl) : (Cond.fieldLink RX9 41 "CordSeals" "state" "LCordSeals$State;").before _ s = true) (fun _ h9 => h9) rfl dX9_freshTrial_5 ?_
  refine rq_V (As := [Value.ref (ad 0)]) (rest := []) ⟨hx, hb, hml, hown, hts⟩ (c_X6_copy l g τ bd ad T R) gX9_freshTrial_X6_copy cd_X6_copy rfl rfl ⟨rfl, rfl⟩ ⟨Nat.le_of_ble_eq_true rfl, Nat.le_of_ble_eq_true rfl⟩ hK hP hD hS (pm3_21 _ _ _) 0 rfl rfl rfl rfl hl rfl (Nat.le_of_ble_eq_true rfl) dX9_freshTrial_8 ⟨Nat.le_of_ble_eq_true rfl, Nat.le_of_ble_eq_true rfl⟩ (fun v w h => by rw [h.2]; exact f_2s ad bd _ _ _ _ _) (fun v w1 H locs hZ hP hD hS => ?_)
  obtain ⟨rfl, rfl⟩ := hZ
  have hP : va_P g vwCl ([xoC x (ta 0) (aj 0) (me 0) sl sv (ad 0) (bd 0)] ++ (stW ad R τ ++ stW bd R τ)) H := hP.pm (pm3_21 _ _ _).symm
  have hD : va_D A ([xoC x (ta 0) (aj 0) (me 0) sl sv (ad 0) (bd 0)] ++ (stW ad R τ ++ stW bd R τ)) := hD.pm (pm3_21 _ _ _).symm
  have hP_x := va_left hP
  have hP_s := va_left (va_right hP)
  have hP_t := va_right (va_right hP)
  refine tl_none ?_
  refine lv_aload_n hx hb dX9_freshTrial_11 rfl (lv_at hl 0 rfl) ?_
  refine va_get (D := g) (ci := 9) (v := Value.ref (bd 0)) (C := RX9) (T := TX9) (N := 7) hx hb hts in_X9_freshTrial_X9 hown hK.1 hP_x 0 (rfl) rfl 6 (by decide) (hts _ (List.mem_of_getElem? (i := 1) rfl) : (Cond.fieldLink RX9 45 "CordSeals" "trial" "LCordSeals$State;").before _ s = true) (fun _ h9 => h9) rfl dX9_freshTrial_12 ?_
  exact rw_aret hx hb hr hlocks hP hS (⟨rfl, rfl⟩) dX9_freshTrial_15

theorem cd_X9_finish : cd yX9_finish 1 := by decide +kernel
theorem in_X9_finish_X9 : ∀ w ∈ wsX90, w ∈ wsX9_finish := by decide +kernel
set_option maxHeartbeats 1000000 in
set_option maxRecDepth 100000 in
theorem c_X9_finish (l : Launch) (hst : l.stackTraces = false) (g : va_G) (τ : Nat → ClassId) (x sl sv : Nat) (ta aj me ad bd : Nat → Nat) (R : Nat → Nat → Int) (n o : Int) (rg : Nat → Option Nat) (hn : 0 ≤ n ∧ n ≤ 14) (ho : 0 ≤ o ∧ o < 14) (sp : Nat) (hsp : rg ((o + n) % 14).toNat = some sp) (a : Int) (ra : -2147483648 ≤ a ∧ a < 2147483648)  : uMet l yX9_finish wsX9_finish { frames := 8, cells := 1, slots := 6, locals := 130 } g τ [Value.ref x, Value.int (iI a)] ([xoC x (ta 0) (aj 0) (me 0) sl sv (ad 0) (bd 0)] ++ (meW me n o rg τ ++ stW ad R τ)) (fun v w => (¬ a = -2 ∧ ¬ a = -3 ∧ ¬ a = -4) ∧ v = some (Value.int (iI a)) ∧ w = [xoC x (ta 0) (aj 0) (me 0) sl sv (bd 0) sp] ++ (meW me (mN n) (mO n o) (mR rg n o (ad 0)) τ ++ stW ad R τ)) (fun E w => w = [xoC x (ta 0) (aj 0) (me 0) sl sv (ad 0) (bd 0)] ++ (meW me n o rg τ ++ stW ad R τ) ∧ xEx a E) := by
  refine uMet_of (cc := cX9_finish) (maxL := 3) (ret := (some .int)) (lv := [(0, Value.ref x), (1, Value.int (iI a))]) (by decide) rfl (Nat.le_of_ble_eq_true rfl) rfl ?_
  intro p e s m below meth c hx hb hr hml hts hown hlocks ht A H hP hD hS hK hZT hZU ls hl
  have hP_x := va_left hP
  have hP_m := va_left (va_right hP)
  have hP_s := va_right (va_right hP)
  refine lv_iload_n hx hb dX9_finish_0 rfl (lv_at hl 1 rfl) ?_
  refine ru_S (As := [Value.int (iI a)]) (rest := []) ⟨hx, hb, hml, hown, hts⟩ (c_X9_mustBeAnswer l hst g τ a ⟨by omega, by omega⟩) gX9_finish_X9_mustBeAnswer cd_X9_mustBeAnswer rfl ⟨rfl, rfl⟩ ⟨Nat.le_of_ble_eq_true rfl, Nat.le_of_ble_eq_true rfl⟩ hK hZT hZU hP hD hS (pm3_ _ _ _) rfl hl rfl (Nat.le_of_ble_eq_true rfl) dX9_finish_1 ⟨Nat.le_of_ble_eq_true rfl, Nat.le_of_ble_eq_true rfl⟩ (fun v w h => by rw [h.2.1]) (fun E w h => by rw [h.1]) (fun E w1 H locs q9 ce9 hZ hP hD hS a1 a2 a3 => ?_) (fun v w1 H locs hZ hP hD hS => ?_)
  · skip
    obtain ⟨rfl, hE⟩ := hZ
    have hP : va_P g vwCl ([xoC x (ta 0) (aj 0) (me 0) sl sv (ad 0) (bd 0)] ++ (meW me n o rg τ ++ stW ad R τ)) H := hP.pm (pm3_ _ _ _).symm
    exact u_out ht hlocks a1 a2 a3 hP hS ⟨Nat.le_of_ble_eq_true rfl, Nat.le_of_ble_eq_true rfl⟩ (⟨rfl, hE⟩)
  · skip
    obtain ⟨rfl, rfl, hm2, hm3, hm4⟩ := hZ
    have hP : va_P g vwCl ([xoC x (ta 0) (aj 0) (me 0) sl sv (ad 0) (bd 0)] ++ (meW me n o rg τ ++ stW ad R τ)) H := hP.pm (pm3_ _ _ _).symm
    have hD : va_D A ([xoC x (ta 0) (aj 0) (me 0) sl sv (ad 0) (bd 0)] ++ (meW me n o rg τ ++ stW ad R τ)) := hD.pm (pm3_ _ _ _).symm
    have hP_x := va_left hP
    have hP_m := va_left (va_right hP)
    have hP_s := va_right (va_right hP)
    refine tl_none ?_
    refine lv_aload_n hx hb dX9_finish_4 rfl (lv_at hl 0 rfl) ?_
    refine va_get (D := g) (ci := 9) (v := Value.ref (ad 0)) (C := RX9) (T := TX9) (N := 7) hx hb hts in_X9_finish_X9 hown hK.1 hP_x 0 (rfl) rfl 5 (by decide) (hts _ (List.mem_of_getElem? (i := 1) rfl) : (Cond.fieldLink RX9 41 "CordSeals" "state" "LCordSeals$State;").before _ s = true) (fun _ h9 => h9) rfl dX9_finish_5 ?_
    refine lv_astore_n (lv' := [(2, Value.ref (ad 0)), (0, Value.ref x), (1, Value.int (iI a))]) hx hb dX9_finish_8 rfl hl (by decide) rfl (fun ls hl => ?_)
    refine lv_aload_n hx hb dX9_finish_9 rfl (lv_at hl 1 rfl) ?_
    refine lv_aload_n hx hb dX9_finish_10 rfl (lv_at hl 1 rfl) ?_
    refine va_get (D := g) (ci := 9) (v := Value.ref (bd 0)) (C := RX9) (T := TX9) (N := 7) hx hb hts in_X9_finish_X9 hown hK.1 hP_x 0 (rfl) rfl 6 (by decide) (hts _ (List.mem_of_getElem? (i := 2) rfl) : (Cond.fieldLink RX9 45 "CordSeals" "trial" "LCordSeals$State;").before _ s = true) (fun _ h9 => h9) rfl dX9_finish_11 ?_
    refine va_put (D := g) (ci := 9) (v := Value.ref (bd 0)) (ty := .object "CordSeals$State") (C := RX9) (T := TX9) (N := 7) hx hb hts in_X9_finish_X9 tyX9 tyX9_ok nmX9 hown hK.1 hP hD hS 0 (rfl) rfl 5 (by decide) (hts _ (List.mem_of_getElem? (i := 1) rfl) : (Cond.fieldLink RX9 41 "CordSeals" "state" "LCordSeals$State;").before _ s = true) (fun _ h9 => h9) rfl (by decide +kernel) rfl rfl (Nat.le_of_ble_eq_true rfl) dX9_finish_14 (fun H locs hP hD hS => ?_)
    have hP : va_P g vwCl ([xoC x (ta 0) (aj 0) (me 0) sl sv (bd 0) (bd 0)] ++ (meW me n o rg τ ++ stW ad R τ)) H := hP
    have hD : va_D A ([xoC x (ta 0) (aj 0) (me 0) sl sv (bd 0) (bd 0)] ++ (meW me n o rg τ ++ stW ad R τ)) := hD
    have hP_x := va_left hP
    have hP_m := va_left (va_right hP)
    have hP_s := va_right (va_right hP)
    refine lv_aload_n hx hb dX9_finish_17 rfl (lv_at hl 1 rfl) ?_
    refine lv_aload_n hx hb dX9_finish_18 rfl (lv_at hl 1 rfl) ?_
    refine va_get (D := g) (ci := 9) (v := Value.ref (me 0)) (C := RX9) (T := TX9) (N := 7) hx hb hts in_X9_finish_X9 hown hK.1 hP_x 0 (rfl) rfl 2 (by decide) (hts _ (List.mem_of_getElem? (i := 3) rfl) : (Cond.fieldLink RX9 26 "CordSeals" "memory" "LCordSeals$Memory;").before _ s = true) (fun _ h9 => h9) rfl dX9_finish_19 ?_
    refine lv_aload_n hx hb dX9_finish_22 rfl (lv_at hl 0 rfl) ?_
    refine rq_V (As := [Value.ref (ad 0)]) (rest := [Value.ref x]) ⟨hx, hb, hml, hown, hts⟩ (c_X2_remember l g τ me n o rg (ad 0) (stV ad) hn ho sp hsp) gX9_finish_X2_remember cd_X2_remember rfl rfl ⟨rfl, rfl⟩ ⟨Nat.le_of_ble_eq_true rfl, Nat.le_of_ble_eq_true rfl⟩ hK hP hD hS (pm_rem _ _ ad R τ) 0 rfl rfl rfl rfl hl rfl (Nat.le_of_ble_eq_true rfl) dX9_finish_23 ⟨Nat.le_of_ble_eq_true rfl, Nat.le_of_ble_eq_true rfl⟩ (fun v w h => by rw [h.2]; exact f_meh _ _ _ _ _ _ _ _ _ _) (fun v w1 H locs hZ hP hD hS => ?_)
    obtain ⟨rfl, rfl⟩ := hZ
    have hP : va_P g vwCl ([xoC x (ta 0) (aj 0) (me 0) sl sv (bd 0) (bd 0)] ++ (meW me (mN n) (mO n o) (mR rg n o (ad 0)) τ ++ stW ad R τ)) H := hP.pm (pm_rem _ _ ad R τ).symm
    have hD : va_D A ([xoC x (ta 0) (aj 0) (me 0) sl sv (bd 0) (bd 0)] ++ (meW me (mN n) (mO n o) (mR rg n o (ad 0)) τ ++ stW ad R τ)) := hD.pm (pm_rem _ _ ad R τ).symm
    have hP_x := va_left hP
    have hP_m := va_left (va_right hP)
    have hP_s := va_right (va_right hP)
    refine tl_some ?_
    refine va_put (D := g) (ci := 9) (v := Value.ref sp) (ty := .object "CordSeals$State") (C := RX9) (T := TX9) (N := 7) hx hb hts in_X9_finish_X9 tyX9 tyX9_ok nmX9 hown hK.1 hP hD hS 0 (rfl) rfl 6 (by decide) (hts _ (List.mem_of_getElem? (i := 2) rfl) : (Cond.fieldLink RX9 45 "CordSeals" "trial" "LCordSeals$State;").before _ s = true) (fun _ h9 => h9) rfl (by decide +kernel) rfl rfl (Nat.le_of_ble_eq_true rfl) dX9_finish_26 (fun H locs hP hD hS => ?_)
    have hP : va_P g vwCl ([xoC x (ta 0) (aj 0) (me 0) sl sv (bd 0) sp] ++ (meW me (mN n) (mO n o) (mR rg n o (ad 0)) τ ++ stW ad R τ)) H := hP
    have hD : va_D A ([xoC x (ta 0) (aj 0) (me 0) sl sv (bd 0) sp] ++ (meW me (mN n) (mO n o) (mR rg n o (ad 0)) τ ++ stW ad R τ)) := hD
    have hP_x := va_left hP
    have hP_m := va_left (va_right hP)
    have hP_s := va_right (va_right hP)
    refine lv_iload_n hx hb dX9_finish_29 rfl (lv_at hl 2 rfl) ?_
    exact u_iret hx hb hr hlocks hP hS ⟨Nat.le_of_ble_eq_true rfl, Nat.le_of_ble_eq_true rfl⟩ (⟨⟨hm2, hm3, hm4⟩, rfl, rfl⟩) dX9_finish_30

theorem cd_X9_reign : cd yX9_reign 2 := by decide +kernel
set_option maxHeartbeats 1000000 in
set_option maxRecDepth 100000 in
theorem c_X9_reign (l : Launch) (hst : l.stackTraces = false) (g : va_G) (τ : Nat → ClassId) (x sl sv : Nat) (ta aj me ad bd : Nat → Nat) (R T : Nat → Nat → Int) (hI : SI R) (n o : Int) (rg : Nat → Option Nat) (hn : 0 ≤ n ∧ n ≤ 14) (ho : 0 ≤ o ∧ o < 14) (sp : Nat) (hsp : rg ((o + n) % 14).toNat = some sp) (y : Int) (ry : -2147483648 ≤ y ∧ y < 2147483648) (q : Int) (rq : -2147483648 ≤ q ∧ q < 2147483648)  : uMet l yX9_reign wsX9_reign { frames := 9, cells := 1, slots := 6, locals := 152 } g τ [Value.ref x, Value.int (iI y), Value.int (iI q)] ([xoC x (ta 0) (aj 0) (me 0) sl sv (ad 0) (bd 0)] ++ (stW ad R τ ++ (stW bd T τ ++ meW me n o rg τ))) (fun v w => 0 ≤ (aReign R y q).1 ∧ v = some (Value.int (iI (aReign R y q).1)) ∧ w = [xoC x (ta 0) (aj 0) (me 0) sl sv (bd 0) sp] ++ (stW ad R τ ++ (stW bd ((aReign R y q).2) τ ++ meW me (mN n) (mO n o) (mR rg n o (ad 0)) τ))) (fun E w => xEx (aReign R y q).1 E ∧ ∃ T2, w = [xoC x (ta 0) (aj 0) (me 0) sl sv (ad 0) (bd 0)] ++ (stW ad R τ ++ (stW bd T2 τ ++ meW me n o rg τ))) := by
  refine uMet_of (cc := cX9_reign) (maxL := 3) (ret := (some .int)) (lv := [(0, Value.ref x), (1, Value.int (iI y)), (2, Value.int (iI q))]) (by decide) rfl (Nat.le_of_ble_eq_true rfl) rfl ?_
  intro p e s m below meth c hx hb hr hml hts hown hlocks ht A H hP hD hS hK hZT hZU ls hl
  have hP_x := va_left hP
  have hP_s := va_left (va_right hP)
  have hP_t := va_left (va_right (va_right hP))
  have hP_m := va_right (va_right (va_right hP))
  refine lv_aload_n hx hb dX9_reign_0 rfl (lv_at hl 0 rfl) ?_
  refine lv_aload_n hx hb dX9_reign_1 rfl (lv_at hl 0 rfl) ?_
  refine rq_V (As := []) (rest := [Value.ref x]) ⟨hx, hb, hml, hown, hts⟩ (c_X9_freshTrial l g τ x sl sv ta aj me ad bd R T) gX9_reign_X9_freshTrial cd_X9_freshTrial rfl rfl ⟨rfl, rfl⟩ ⟨Nat.le_of_ble_eq_true rfl, Nat.le_of_ble_eq_true rfl⟩ hK hP hD hS (pm4_012 _ _ _ _) 0 rfl rfl rfl rfl hl rfl (Nat.le_of_ble_eq_true rfl) dX9_reign_2 ⟨Nat.le_of_ble_eq_true rfl, Nat.le_of_ble_eq_true rfl⟩ (fun v w h => by rw [h.2]; exact f_xst _ _ _ _ _ _ _ _) (fun v w1 H locs hZ hP hD hS => ?_)
  obtain ⟨rfl, rfl⟩ := hZ
  have hP : va_P g vwCl ([xoC x (ta 0) (aj 0) (me 0) sl sv (ad 0) (bd 0)] ++ (stW ad R τ ++ (stW bd R τ ++ meW me n o rg τ))) H := hP.pm (pm4_012 _ _ _ _).symm
  have hD : va_D A ([xoC x (ta 0) (aj 0) (me 0) sl sv (ad 0) (bd 0)] ++ (stW ad R τ ++ (stW bd R τ ++ meW me n o rg τ))) := hD.pm (pm4_012 _ _ _ _).symm
  have hP_x := va_left hP
  have hP_s := va_left (va_right hP)
  have hP_t := va_left (va_right (va_right hP))
  have hP_m := va_right (va_right (va_right hP))
  refine tl_some ?_
  refine lv_iload_n hx hb dX9_reign_5 rfl (lv_at hl 1 rfl) ?_
  refine lv_iload_n hx hb dX9_reign_6 rfl (lv_at hl 2 rfl) ?_
  refine rq_V (As := [Value.int (iI y), Value.int (iI q)]) (rest := [Value.ref x]) ⟨hx, hb, hml, hown, hts⟩ (c_X6_addReign l g τ bd R hI y ⟨by omega, by omega⟩ q ⟨by omega, by omega⟩) gX9_reign_X6_addReign cd_X6_addReign rfl rfl ⟨rfl, rfl⟩ ⟨Nat.le_of_ble_eq_true rfl, Nat.le_of_ble_eq_true rfl⟩ hK hP hD hS (pm4_2 _ _ _ _) 0 rfl rfl rfl rfl hl rfl (Nat.le_of_ble_eq_true rfl) dX9_reign_7 ⟨Nat.le_of_ble_eq_true rfl, Nat.le_of_ble_eq_true rfl⟩ (fun v w h => by rw [h.2]; exact f_stx bd ta _ _ _) (fun v w1 H locs hZ hP hD hS => ?_)
  obtain ⟨rfl, rfl⟩ := hZ
  have hP : va_P g vwCl ([xoC x (ta 0) (aj 0) (me 0) sl sv (ad 0) (bd 0)] ++ (stW ad R τ ++ (stW bd ((aReign R y q).2) τ ++ meW me n o rg τ))) H := hP.pm (pm4_2 _ _ _ _).symm
  have hD : va_D A ([xoC x (ta 0) (aj 0) (me 0) sl sv (ad 0) (bd 0)] ++ (stW ad R τ ++ (stW bd ((aReign R y q).2) τ ++ meW me n o rg τ))) := hD.pm (pm4_2 _ _ _ _).symm
  have hP_x := va_left hP
  have hP_s := va_left (va_right hP)
  have hP_t := va_left (va_right (va_right hP))
  have hP_m := va_right (va_right (va_right hP))
  refine tl_some ?_
  have hra := aReign_r hI y q
  refine ru_V (As := [Value.int (iI ((aReign R y q).1))]) (rest := []) ⟨hx, hb, hml, hown, hts⟩ (c_X9_finish l hst g τ x sl sv ta aj me ad bd R n o rg hn ho sp hsp ((aReign R y q).1) ⟨by omega, by omega⟩) gX9_reign_X9_finish cd_X9_finish rfl rfl ⟨rfl, rfl⟩ ⟨Nat.le_of_ble_eq_true rfl, Nat.le_of_ble_eq_true rfl⟩ hK hZT hZU hP hD hS (pm4_031 _ _ _ _) 0 rfl rfl rfl rfl hl rfl (Nat.le_of_ble_eq_true rfl) dX9_reign_10 ⟨Nat.le_of_ble_eq_true rfl, Nat.le_of_ble_eq_true rfl⟩ (fun v w h => by rw [h.2.2]; exact f_xms _ _ _ _ _ _ _ _ _ _ _ _ _ _ _ _ _ _ _ _) (fun E w h => by rw [h.1]) (fun E w1 H locs q9 ce9 hZ hP hD hS a1 a2 a3 => ?_) (fun v w1 H locs hZ hP hD hS => ?_)
  · skip
    obtain ⟨rfl, hE⟩ := hZ
    have hP : va_P g vwCl ([xoC x (ta 0) (aj 0) (me 0) sl sv (ad 0) (bd 0)] ++ (stW ad R τ ++ (stW bd ((aReign R y q).2) τ ++ meW me n o rg τ))) H := hP.pm (pm4_031 _ _ _ _).symm
    exact u_out ht hlocks a1 a2 a3 hP hS ⟨Nat.le_of_ble_eq_true rfl, Nat.le_of_ble_eq_true rfl⟩ (⟨hE, _, rfl⟩)
  · skip
    obtain ⟨⟨hm2, hm3, hm4⟩, rfl, rfl⟩ := hZ
    have hP : va_P g vwCl ([xoC x (ta 0) (aj 0) (me 0) sl sv (bd 0) sp] ++ (stW ad R τ ++ (stW bd ((aReign R y q).2) τ ++ meW me (mN n) (mO n o) (mR rg n o (ad 0)) τ))) H := hP.pm (pm4_031 _ _ _ _).symm
    have hD : va_D A ([xoC x (ta 0) (aj 0) (me 0) sl sv (bd 0) sp] ++ (stW ad R τ ++ (stW bd ((aReign R y q).2) τ ++ meW me (mN n) (mO n o) (mR rg n o (ad 0)) τ))) := hD.pm (pm4_031 _ _ _ _).symm
    have hP_x := va_left hP
    have hP_s := va_left (va_right hP)
    have hP_t := va_left (va_right (va_right hP))
    have hP_m := va_right (va_right (va_right hP))
    refine tl_some ?_
    exact u_iret hx hb hr hlocks hP hS ⟨Nat.le_of_ble_eq_true rfl, Nat.le_of_ble_eq_true rfl⟩ (⟨by omega, rfl, rfl⟩) dX9_reign_13

theorem cd_X9_die : cd yX9_die 3 := by decide +kernel
set_option maxHeartbeats 1000000 in
set_option maxRecDepth 100000 in
theorem c_X9_die (l : Launch) (hst : l.stackTraces = false) (g : va_G) (τ : Nat → ClassId) (x sl sv : Nat) (ta aj me ad bd : Nat → Nat) (R T : Nat → Nat → Int) (hI : SI R) (n o : Int) (rg : Nat → Option Nat) (hn : 0 ≤ n ∧ n ≤ 14) (ho : 0 ≤ o ∧ o < 14) (sp : Nat) (hsp : rg ((o + n) % 14).toNat = some sp) (h1 : Int) (rh1 : -2147483648 ≤ h1 ∧ h1 < 2147483648) (a : Int) (ra : -2147483648 ≤ a ∧ a < 2147483648) (b : Int) (rb : -2147483648 ≤ b ∧ b < 2147483648)  : uMet l yX9_die wsX9_die { frames := 9, cells := 1, slots := 6, locals := 152 } g τ [Value.ref x, Value.int (iI h1), Value.int (iI a), Value.int (iI b)] ([xoC x (ta 0) (aj 0) (me 0) sl sv (ad 0) (bd 0)] ++ (stW ad R τ ++ (stW bd T τ ++ meW me n o rg τ))) (fun v w => 0 ≤ (aDie R h1 a b).1 ∧ v = some (Value.int (iI (aDie R h1 a b).1)) ∧ w = [xoC x (ta 0) (aj 0) (me 0) sl sv (bd 0) sp] ++ (stW ad R τ ++ (stW bd ((aDie R h1 a b).2) τ ++ meW me (mN n) (mO n o) (mR rg n o (ad 0)) τ))) (fun E w => xEx (aDie R h1 a b).1 E ∧ ∃ T2, w = [xoC x (ta 0) (aj 0) (me 0) sl sv (ad 0) (bd 0)] ++ (stW ad R τ ++ (stW bd T2 τ ++ meW me n o rg τ))) := by
  refine uMet_of (cc := cX9_die) (maxL := 4) (ret := (some .int)) (lv := [(0, Value.ref x), (1, Value.int (iI h1)), (2, Value.int (iI a)), (3, Value.int (iI b))]) (by decide) rfl (Nat.le_of_ble_eq_true rfl) rfl ?_
  intro p e s m below meth c hx hb hr hml hts hown hlocks ht A H hP hD hS hK hZT hZU ls hl
  have hP_x := va_left hP
  have hP_s := va_left (va_right hP)
  have hP_t := va_left (va_right (va_right hP))
  have hP_m := va_right (va_right (va_right hP))
  refine lv_aload_n hx hb dX9_die_0 rfl (lv_at hl 0 rfl) ?_
  refine lv_aload_n hx hb dX9_die_1 rfl (lv_at hl 0 rfl) ?_
  refine rq_V (As := []) (rest := [Value.ref x]) ⟨hx, hb, hml, hown, hts⟩ (c_X9_freshTrial l g τ x sl sv ta aj me ad bd R T) gX9_die_X9_freshTrial cd_X9_freshTrial rfl rfl ⟨rfl, rfl⟩ ⟨Nat.le_of_ble_eq_true rfl, Nat.le_of_ble_eq_true rfl⟩ hK hP hD hS (pm4_012 _ _ _ _) 0 rfl rfl rfl rfl hl rfl (Nat.le_of_ble_eq_true rfl) dX9_die_2 ⟨Nat.le_of_ble_eq_true rfl, Nat.le_of_ble_eq_true rfl⟩ (fun v w h => by rw [h.2]; exact f_xst _ _ _ _ _ _ _ _) (fun v w1 H locs hZ hP hD hS => ?_)
  obtain ⟨rfl, rfl⟩ := hZ
  have hP : va_P g vwCl ([xoC x (ta 0) (aj 0) (me 0) sl sv (ad 0) (bd 0)] ++ (stW ad R τ ++ (stW bd R τ ++ meW me n o rg τ))) H := hP.pm (pm4_012 _ _ _ _).symm
  have hD : va_D A ([xoC x (ta 0) (aj 0) (me 0) sl sv (ad 0) (bd 0)] ++ (stW ad R τ ++ (stW bd R τ ++ meW me n o rg τ))) := hD.pm (pm4_012 _ _ _ _).symm
  have hP_x := va_left hP
  have hP_s := va_left (va_right hP)
  have hP_t := va_left (va_right (va_right hP))
  have hP_m := va_right (va_right (va_right hP))
  refine tl_some ?_
  refine lv_iload_n hx hb dX9_die_5 rfl (lv_at hl 1 rfl) ?_
  refine lv_iload_n hx hb dX9_die_6 rfl (lv_at hl 2 rfl) ?_
  refine lv_iload_n hx hb dX9_die_7 rfl (lv_at hl 3 rfl) ?_
  refine rq_V (As := [Value.int (iI h1), Value.int (iI a), Value.int (iI b)]) (rest := [Value.ref x]) ⟨hx, hb, hml, hown, hts⟩ (c_X6_addDie l g τ bd R hI h1 ⟨by omega, by omega⟩ a ⟨by omega, by omega⟩ b ⟨by omega, by omega⟩) gX9_die_X6_addDie cd_X6_addDie rfl rfl ⟨rfl, rfl⟩ ⟨Nat.le_of_ble_eq_true rfl, Nat.le_of_ble_eq_true rfl⟩ hK hP hD hS (pm4_2 _ _ _ _) 0 rfl rfl rfl rfl hl rfl (Nat.le_of_ble_eq_true rfl) dX9_die_8 ⟨Nat.le_of_ble_eq_true rfl, Nat.le_of_ble_eq_true rfl⟩ (fun v w h => by rw [h.2]; exact f_stx bd ta _ _ _) (fun v w1 H locs hZ hP hD hS => ?_)
  obtain ⟨rfl, rfl⟩ := hZ
  have hP : va_P g vwCl ([xoC x (ta 0) (aj 0) (me 0) sl sv (ad 0) (bd 0)] ++ (stW ad R τ ++ (stW bd ((aDie R h1 a b).2) τ ++ meW me n o rg τ))) H := hP.pm (pm4_2 _ _ _ _).symm
  have hD : va_D A ([xoC x (ta 0) (aj 0) (me 0) sl sv (ad 0) (bd 0)] ++ (stW ad R τ ++ (stW bd ((aDie R h1 a b).2) τ ++ meW me n o rg τ))) := hD.pm (pm4_2 _ _ _ _).symm
  have hP_x := va_left hP
  have hP_s := va_left (va_right hP)
  have hP_t := va_left (va_right (va_right hP))
  have hP_m := va_right (va_right (va_right hP))
  refine tl_some ?_
  have hra := aDie_r hI h1 a b
  refine ru_V (As := [Value.int (iI ((aDie R h1 a b).1))]) (rest := []) ⟨hx, hb, hml, hown, hts⟩ (c_X9_finish l hst g τ x sl sv ta aj me ad bd R n o rg hn ho sp hsp ((aDie R h1 a b).1) ⟨by omega, by omega⟩) gX9_die_X9_finish cd_X9_finish rfl rfl ⟨rfl, rfl⟩ ⟨Nat.le_of_ble_eq_true rfl, Nat.le_of_ble_eq_true rfl⟩ hK hZT hZU hP hD hS (pm4_031 _ _ _ _) 0 rfl rfl rfl rfl hl rfl (Nat.le_of_ble_eq_true rfl) dX9_die_11 ⟨Nat.le_of_ble_eq_true rfl, Nat.le_of_ble_eq_true rfl⟩ (fun v w h => by rw [h.2.2]; exact f_xms _ _ _ _ _ _ _ _ _ _ _ _ _ _ _ _ _ _ _ _) (fun E w h => by rw [h.1]) (fun E w1 H locs q9 ce9 hZ hP hD hS a1 a2 a3 => ?_) (fun v w1 H locs hZ hP hD hS => ?_)
  · skip
    obtain ⟨rfl, hE⟩ := hZ
    have hP : va_P g vwCl ([xoC x (ta 0) (aj 0) (me 0) sl sv (ad 0) (bd 0)] ++ (stW ad R τ ++ (stW bd ((aDie R h1 a b).2) τ ++ meW me n o rg τ))) H := hP.pm (pm4_031 _ _ _ _).symm
    exact u_out ht hlocks a1 a2 a3 hP hS ⟨Nat.le_of_ble_eq_true rfl, Nat.le_of_ble_eq_true rfl⟩ (⟨hE, _, rfl⟩)
  · skip
    obtain ⟨⟨hm2, hm3, hm4⟩, rfl, rfl⟩ := hZ
    have hP : va_P g vwCl ([xoC x (ta 0) (aj 0) (me 0) sl sv (bd 0) sp] ++ (stW ad R τ ++ (stW bd ((aDie R h1 a b).2) τ ++ meW me (mN n) (mO n o) (mR rg n o (ad 0)) τ))) H := hP.pm (pm4_031 _ _ _ _).symm
    have hD : va_D A ([xoC x (ta 0) (aj 0) (me 0) sl sv (bd 0) sp] ++ (stW ad R τ ++ (stW bd ((aDie R h1 a b).2) τ ++ meW me (mN n) (mO n o) (mR rg n o (ad 0)) τ))) := hD.pm (pm4_031 _ _ _ _).symm
    have hP_x := va_left hP
    have hP_s := va_left (va_right hP)
    have hP_t := va_left (va_right (va_right hP))
    have hP_m := va_right (va_right (va_right hP))
    refine tl_some ?_
    exact u_iret hx hb hr hlocks hP hS ⟨Nat.le_of_ble_eq_true rfl, Nat.le_of_ble_eq_true rfl⟩ (⟨by omega, rfl, rfl⟩) dX9_die_14

theorem cd_X9_crack : cd yX9_crack 2 := by decide +kernel
set_option maxHeartbeats 1000000 in
set_option maxRecDepth 100000 in
theorem c_X9_crack (l : Launch) (hst : l.stackTraces = false) (g : va_G) (τ : Nat → ClassId) (x sl sv : Nat) (ta aj me ad bd : Nat → Nat) (R T : Nat → Nat → Int) (hI : SI R) (n o : Int) (rg : Nat → Option Nat) (hn : 0 ≤ n ∧ n ≤ 14) (ho : 0 ≤ o ∧ o < 14) (sp : Nat) (hsp : rg ((o + n) % 14).toNat = some sp) (d : Int) (rd : -2147483648 ≤ d ∧ d < 2147483648) (y : Int) (ry : -2147483648 ≤ y ∧ y < 2147483648)  : uMet l yX9_crack wsX9_crack { frames := 9, cells := 1, slots := 6, locals := 152 } g τ [Value.ref x, Value.int (iI d), Value.int (iI y)] ([xoC x (ta 0) (aj 0) (me 0) sl sv (ad 0) (bd 0)] ++ (stW ad R τ ++ (stW bd T τ ++ meW me n o rg τ))) (fun v w => 0 ≤ (aCrack R d y).1 ∧ v = some (Value.int (iI (aCrack R d y).1)) ∧ w = [xoC x (ta 0) (aj 0) (me 0) sl sv (bd 0) sp] ++ (stW ad R τ ++ (stW bd ((aCrack R d y).2) τ ++ meW me (mN n) (mO n o) (mR rg n o (ad 0)) τ))) (fun E w => xEx (aCrack R d y).1 E ∧ ∃ T2, w = [xoC x (ta 0) (aj 0) (me 0) sl sv (ad 0) (bd 0)] ++ (stW ad R τ ++ (stW bd T2 τ ++ meW me n o rg τ))) := by
  refine uMet_of (cc := cX9_crack) (maxL := 3) (ret := (some .int)) (lv := [(0, Value.ref x), (1, Value.int (iI d)), (2, Value.int (iI y))]) (by decide) rfl (Nat.le_of_ble_eq_true rfl) rfl ?_
  intro p e s m below meth c hx hb hr hml hts hown hlocks ht A H hP hD hS hK hZT hZU ls hl
  have hP_x := va_left hP
  have hP_s := va_left (va_right hP)
  have hP_t := va_left (va_right (va_right hP))
  have hP_m := va_right (va_right (va_right hP))
  refine lv_aload_n hx hb dX9_crack_0 rfl (lv_at hl 0 rfl) ?_
  refine lv_aload_n hx hb dX9_crack_1 rfl (lv_at hl 0 rfl) ?_
  refine rq_V (As := []) (rest := [Value.ref x]) ⟨hx, hb, hml, hown, hts⟩ (c_X9_freshTrial l g τ x sl sv ta aj me ad bd R T) gX9_crack_X9_freshTrial cd_X9_freshTrial rfl rfl ⟨rfl, rfl⟩ ⟨Nat.le_of_ble_eq_true rfl, Nat.le_of_ble_eq_true rfl⟩ hK hP hD hS (pm4_012 _ _ _ _) 0 rfl rfl rfl rfl hl rfl (Nat.le_of_ble_eq_true rfl) dX9_crack_2 ⟨Nat.le_of_ble_eq_true rfl, Nat.le_of_ble_eq_true rfl⟩ (fun v w h => by rw [h.2]; exact f_xst _ _ _ _ _ _ _ _) (fun v w1 H locs hZ hP hD hS => ?_)
  obtain ⟨rfl, rfl⟩ := hZ
  have hP : va_P g vwCl ([xoC x (ta 0) (aj 0) (me 0) sl sv (ad 0) (bd 0)] ++ (stW ad R τ ++ (stW bd R τ ++ meW me n o rg τ))) H := hP.pm (pm4_012 _ _ _ _).symm
  have hD : va_D A ([xoC x (ta 0) (aj 0) (me 0) sl sv (ad 0) (bd 0)] ++ (stW ad R τ ++ (stW bd R τ ++ meW me n o rg τ))) := hD.pm (pm4_012 _ _ _ _).symm
  have hP_x := va_left hP
  have hP_s := va_left (va_right hP)
  have hP_t := va_left (va_right (va_right hP))
  have hP_m := va_right (va_right (va_right hP))
  refine tl_some ?_
  refine lv_iload_n hx hb dX9_crack_5 rfl (lv_at hl 1 rfl) ?_
  refine lv_iload_n hx hb dX9_crack_6 rfl (lv_at hl 2 rfl) ?_
  refine rq_V (As := [Value.int (iI d), Value.int (iI y)]) (rest := [Value.ref x]) ⟨hx, hb, hml, hown, hts⟩ (c_X6_addCrack l g τ bd R hI d ⟨by omega, by omega⟩ y ⟨by omega, by omega⟩) gX9_crack_X6_addCrack cd_X6_addCrack rfl rfl ⟨rfl, rfl⟩ ⟨Nat.le_of_ble_eq_true rfl, Nat.le_of_ble_eq_true rfl⟩ hK hP hD hS (pm4_2 _ _ _ _) 0 rfl rfl rfl rfl hl rfl (Nat.le_of_ble_eq_true rfl) dX9_crack_7 ⟨Nat.le_of_ble_eq_true rfl, Nat.le_of_ble_eq_true rfl⟩ (fun v w h => by rw [h.2]; exact f_stx bd ta _ _ _) (fun v w1 H locs hZ hP hD hS => ?_)
  obtain ⟨rfl, rfl⟩ := hZ
  have hP : va_P g vwCl ([xoC x (ta 0) (aj 0) (me 0) sl sv (ad 0) (bd 0)] ++ (stW ad R τ ++ (stW bd ((aCrack R d y).2) τ ++ meW me n o rg τ))) H := hP.pm (pm4_2 _ _ _ _).symm
  have hD : va_D A ([xoC x (ta 0) (aj 0) (me 0) sl sv (ad 0) (bd 0)] ++ (stW ad R τ ++ (stW bd ((aCrack R d y).2) τ ++ meW me n o rg τ))) := hD.pm (pm4_2 _ _ _ _).symm
  have hP_x := va_left hP
  have hP_s := va_left (va_right hP)
  have hP_t := va_left (va_right (va_right hP))
  have hP_m := va_right (va_right (va_right hP))
  refine tl_some ?_
  have hra := aCrack_r hI d y
  refine ru_V (As := [Value.int (iI ((aCrack R d y).1))]) (rest := []) ⟨hx, hb, hml, hown, hts⟩ (c_X9_finish l hst g τ x sl sv ta aj me ad bd R n o rg hn ho sp hsp ((aCrack R d y).1) ⟨by omega, by omega⟩) gX9_crack_X9_finish cd_X9_finish rfl rfl ⟨rfl, rfl⟩ ⟨Nat.le_of_ble_eq_true rfl, Nat.le_of_ble_eq_true rfl⟩ hK hZT hZU hP hD hS (pm4_031 _ _ _ _) 0 rfl rfl rfl rfl hl rfl (Nat.le_of_ble_eq_true rfl) dX9_crack_10 ⟨Nat.le_of_ble_eq_true rfl, Nat.le_of_ble_eq_true rfl⟩ (fun v w h => by rw [h.2.2]; exact f_xms _ _ _ _ _ _ _ _ _ _ _ _ _ _ _ _ _ _ _ _) (fun E w h => by rw [h.1]) (fun E w1 H locs q9 ce9 hZ hP hD hS a1 a2 a3 => ?_) (fun v w1 H locs hZ hP hD hS => ?_)
  · skip
    obtain ⟨rfl, hE⟩ := hZ
    have hP : va_P g vwCl ([xoC x (ta 0) (aj 0) (me 0) sl sv (ad 0) (bd 0)] ++ (stW ad R τ ++ (stW bd ((aCrack R d y).2) τ ++ meW me n o rg τ))) H := hP.pm (pm4_031 _ _ _ _).symm
    exact u_out ht hlocks a1 a2 a3 hP hS ⟨Nat.le_of_ble_eq_true rfl, Nat.le_of_ble_eq_true rfl⟩ (⟨hE, _, rfl⟩)
  · skip
    obtain ⟨⟨hm2, hm3, hm4⟩, rfl, rfl⟩ := hZ
    have hP : va_P g vwCl ([xoC x (ta 0) (aj 0) (me 0) sl sv (bd 0) sp] ++ (stW ad R τ ++ (stW bd ((aCrack R d y).2) τ ++ meW me (mN n) (mO n o) (mR rg n o (ad 0)) τ))) H := hP.pm (pm4_031 _ _ _ _).symm
    have hD : va_D A ([xoC x (ta 0) (aj 0) (me 0) sl sv (bd 0) sp] ++ (stW ad R τ ++ (stW bd ((aCrack R d y).2) τ ++ meW me (mN n) (mO n o) (mR rg n o (ad 0)) τ))) := hD.pm (pm4_031 _ _ _ _).symm
    have hP_x := va_left hP
    have hP_s := va_left (va_right hP)
    have hP_t := va_left (va_right (va_right hP))
    have hP_m := va_right (va_right (va_right hP))
    refine tl_some ?_
    exact u_iret hx hb hr hlocks hP hS ⟨Nat.le_of_ble_eq_true rfl, Nat.le_of_ble_eq_true rfl⟩ (⟨by omega, rfl, rfl⟩) dX9_crack_13

theorem cd_X9_seal : cd yX9_seal 5 := by decide +kernel
set_option maxHeartbeats 1000000 in
set_option maxRecDepth 100000 in
theorem c_X9_seal (l : Launch) (hst : l.stackTraces = false) (g : va_G) (τ : Nat → ClassId) (x sl sv : Nat) (ta aj me ad bd : Nat → Nat) (R T : Nat → Nat → Int) (hI : SI R) (n o : Int) (rg : Nat → Option Nat) (hn : 0 ≤ n ∧ n ≤ 14) (ho : 0 ≤ o ∧ o < 14) (sp : Nat) (hsp : rg ((o + n) % 14).toNat = some sp) (d : Int) (rd : -2147483648 ≤ d ∧ d < 2147483648) (a : Int) (ra : -2147483648 ≤ a ∧ a < 2147483648) (q : Int) (rq : -2147483648 ≤ q ∧ q < 2147483648) (z : Int) (rz : -2147483648 ≤ z ∧ z < 2147483648) (x1 : Int) (rx1 : -2147483648 ≤ x1 ∧ x1 < 2147483648)  : uMet l yX9_seal wsX9_seal { frames := 9, cells := 1, slots := 6, locals := 152 } g τ [Value.ref x, Value.int (iI d), Value.int (iI a), Value.int (iI q), Value.int (iI z), Value.int (iI x1)] ([xoC x (ta 0) (aj 0) (me 0) sl sv (ad 0) (bd 0)] ++ (stW ad R τ ++ (stW bd T τ ++ meW me n o rg τ))) (fun v w => 0 ≤ (aSeal R d a q z x1).1 ∧ v = some (Value.int (iI (aSeal R d a q z x1).1)) ∧ w = [xoC x (ta 0) (aj 0) (me 0) sl sv (bd 0) sp] ++ (stW ad R τ ++ (stW bd ((aSeal R d a q z x1).2) τ ++ meW me (mN n) (mO n o) (mR rg n o (ad 0)) τ))) (fun E w => xEx (aSeal R d a q z x1).1 E ∧ ∃ T2, w = [xoC x (ta 0) (aj 0) (me 0) sl sv (ad 0) (bd 0)] ++ (stW ad R τ ++ (stW bd T2 τ ++ meW me n o rg τ))) := by
  refine uMet_of (cc := cX9_seal) (maxL := 6) (ret := (some .int)) (lv := [(0, Value.ref x), (1, Value.int (iI d)), (2, Value.int (iI a)), (3, Value.int (iI q)), (4, Value.int (iI z)), (5, Value.int (iI x1))]) (by decide) rfl (Nat.le_of_ble_eq_true rfl) rfl ?_
  intro p e s m below meth c hx hb hr hml hts hown hlocks ht A H hP hD hS hK hZT hZU ls hl
  have hP_x := va_left hP
  have hP_s := va_left (va_right hP)
  have hP_t := va_left (va_right (va_right hP))
  have hP_m := va_right (va_right (va_right hP))
  refine lv_aload_n hx hb dX9_seal_0 rfl (lv_at hl 0 rfl) ?_
  refine lv_aload_n hx hb dX9_seal_1 rfl (lv_at hl 0 rfl) ?_
  refine rq_V (As := []) (rest := [Value.ref x]) ⟨hx, hb, hml, hown, hts⟩ (c_X9_freshTrial l g τ x sl sv ta aj me ad bd R T) gX9_seal_X9_freshTrial cd_X9_freshTrial rfl rfl ⟨rfl, rfl⟩ ⟨Nat.le_of_ble_eq_true rfl, Nat.le_of_ble_eq_true rfl⟩ hK hP hD hS (pm4_012 _ _ _ _) 0 rfl rfl rfl rfl hl rfl (Nat.le_of_ble_eq_true rfl) dX9_seal_2 ⟨Nat.le_of_ble_eq_true rfl, Nat.le_of_ble_eq_true rfl⟩ (fun v w h => by rw [h.2]; exact f_xst _ _ _ _ _ _ _ _) (fun v w1 H locs hZ hP hD hS => ?_)
  obtain ⟨rfl, rfl⟩ := hZ
  have hP : va_P g vwCl ([xoC x (ta 0) (aj 0) (me 0) sl sv (ad 0) (bd 0)] ++ (stW ad R τ ++ (stW bd R τ ++ meW me n o rg τ))) H := hP.pm (pm4_012 _ _ _ _).symm
  have hD : va_D A ([xoC x (ta 0) (aj 0) (me 0) sl sv (ad 0) (bd 0)] ++ (stW ad R τ ++ (stW bd R τ ++ meW me n o rg τ))) := hD.pm (pm4_012 _ _ _ _).symm
  have hP_x := va_left hP
  have hP_s := va_left (va_right hP)
  have hP_t := va_left (va_right (va_right hP))
  have hP_m := va_right (va_right (va_right hP))
  refine tl_some ?_
  refine lv_iload_n hx hb dX9_seal_5 rfl (lv_at hl 1 rfl) ?_
  refine lv_iload_n hx hb dX9_seal_6 rfl (lv_at hl 2 rfl) ?_
  refine lv_iload_n hx hb dX9_seal_7 rfl (lv_at hl 3 rfl) ?_
  refine lv_iload hx hb dX9_seal_8 (lv_at hl 4 rfl) ?_
  refine lv_iload hx hb dX9_seal_10 (lv_at hl 5 rfl) ?_
  refine rq_V (As := [Value.int (iI d), Value.int (iI a), Value.int (iI q), Value.int (iI z), Value.int (iI x1)]) (rest := [Value.ref x]) ⟨hx, hb, hml, hown, hts⟩ (c_X6_addSeal l g τ bd R hI d ⟨by omega, by omega⟩ a ⟨by omega, by omega⟩ q ⟨by omega, by omega⟩ z ⟨by omega, by omega⟩ x1 ⟨by omega, by omega⟩) gX9_seal_X6_addSeal cd_X6_addSeal rfl rfl ⟨rfl, rfl⟩ ⟨Nat.le_of_ble_eq_true rfl, Nat.le_of_ble_eq_true rfl⟩ hK hP hD hS (pm4_2 _ _ _ _) 0 rfl rfl rfl rfl hl rfl (Nat.le_of_ble_eq_true rfl) dX9_seal_12 ⟨Nat.le_of_ble_eq_true rfl, Nat.le_of_ble_eq_true rfl⟩ (fun v w h => by rw [h.2]; exact f_stx bd ta _ _ _) (fun v w1 H locs hZ hP hD hS => ?_)
  obtain ⟨rfl, rfl⟩ := hZ
  have hP : va_P g vwCl ([xoC x (ta 0) (aj 0) (me 0) sl sv (ad 0) (bd 0)] ++ (stW ad R τ ++ (stW bd ((aSeal R d a q z x1).2) τ ++ meW me n o rg τ))) H := hP.pm (pm4_2 _ _ _ _).symm
  have hD : va_D A ([xoC x (ta 0) (aj 0) (me 0) sl sv (ad 0) (bd 0)] ++ (stW ad R τ ++ (stW bd ((aSeal R d a q z x1).2) τ ++ meW me n o rg τ))) := hD.pm (pm4_2 _ _ _ _).symm
  have hP_x := va_left hP
  have hP_s := va_left (va_right hP)
  have hP_t := va_left (va_right (va_right hP))
  have hP_m := va_right (va_right (va_right hP))
  refine tl_some ?_
  have hra := aSeal_r hI d a q z x1
  refine ru_V (As := [Value.int (iI ((aSeal R d a q z x1).1))]) (rest := []) ⟨hx, hb, hml, hown, hts⟩ (c_X9_finish l hst g τ x sl sv ta aj me ad bd R n o rg hn ho sp hsp ((aSeal R d a q z x1).1) ⟨by omega, by omega⟩) gX9_seal_X9_finish cd_X9_finish rfl rfl ⟨rfl, rfl⟩ ⟨Nat.le_of_ble_eq_true rfl, Nat.le_of_ble_eq_true rfl⟩ hK hZT hZU hP hD hS (pm4_031 _ _ _ _) 0 rfl rfl rfl rfl hl rfl (Nat.le_of_ble_eq_true rfl) dX9_seal_15 ⟨Nat.le_of_ble_eq_true rfl, Nat.le_of_ble_eq_true rfl⟩ (fun v w h => by rw [h.2.2]; exact f_xms _ _ _ _ _ _ _ _ _ _ _ _ _ _ _ _ _ _ _ _) (fun E w h => by rw [h.1]) (fun E w1 H locs q9 ce9 hZ hP hD hS a1 a2 a3 => ?_) (fun v w1 H locs hZ hP hD hS => ?_)
  · skip
    obtain ⟨rfl, hE⟩ := hZ
    have hP : va_P g vwCl ([xoC x (ta 0) (aj 0) (me 0) sl sv (ad 0) (bd 0)] ++ (stW ad R τ ++ (stW bd ((aSeal R d a q z x1).2) τ ++ meW me n o rg τ))) H := hP.pm (pm4_031 _ _ _ _).symm
    exact u_out ht hlocks a1 a2 a3 hP hS ⟨Nat.le_of_ble_eq_true rfl, Nat.le_of_ble_eq_true rfl⟩ (⟨hE, _, rfl⟩)
  · skip
    obtain ⟨⟨hm2, hm3, hm4⟩, rfl, rfl⟩ := hZ
    have hP : va_P g vwCl ([xoC x (ta 0) (aj 0) (me 0) sl sv (bd 0) sp] ++ (stW ad R τ ++ (stW bd ((aSeal R d a q z x1).2) τ ++ meW me (mN n) (mO n o) (mR rg n o (ad 0)) τ))) H := hP.pm (pm4_031 _ _ _ _).symm
    have hD : va_D A ([xoC x (ta 0) (aj 0) (me 0) sl sv (bd 0) sp] ++ (stW ad R τ ++ (stW bd ((aSeal R d a q z x1).2) τ ++ meW me (mN n) (mO n o) (mR rg n o (ad 0)) τ))) := hD.pm (pm4_031 _ _ _ _).symm
    have hP_x := va_left hP
    have hP_s := va_left (va_right hP)
    have hP_t := va_left (va_right (va_right hP))
    have hP_m := va_right (va_right (va_right hP))
    refine tl_some ?_
    exact u_iret hx hb hr hlocks hP hS ⟨Nat.le_of_ble_eq_true rfl, Nat.le_of_ble_eq_true rfl⟩ (⟨by omega, rfl, rfl⟩) dX9_seal_18

theorem cd_X9_show : cd yX9_show 2 := by decide +kernel
set_option maxHeartbeats 1000000 in
set_option maxRecDepth 100000 in
theorem c_X9_show (l : Launch) (hst : l.stackTraces = false) (g : va_G) (τ : Nat → ClassId) (x sl sv : Nat) (ta aj me ad bd : Nat → Nat) (R T : Nat → Nat → Int) (hI : SI R) (n o : Int) (rg : Nat → Option Nat) (hn : 0 ≤ n ∧ n ≤ 14) (ho : 0 ≤ o ∧ o < 14) (sp : Nat) (hsp : rg ((o + n) % 14).toNat = some sp) (t : Int) (rt : -2147483648 ≤ t ∧ t < 2147483648) (x1 : Int) (rx1 : -2147483648 ≤ x1 ∧ x1 < 2147483648)  : uMet l yX9_show wsX9_show { frames := 9, cells := 1, slots := 6, locals := 152 } g τ [Value.ref x, Value.int (iI t), Value.int (iI x1)] ([xoC x (ta 0) (aj 0) (me 0) sl sv (ad 0) (bd 0)] ++ (stW ad R τ ++ (stW bd T τ ++ meW me n o rg τ))) (fun v w => 0 ≤ (aShow R t x1).1 ∧ v = some (Value.int (iI (aShow R t x1).1)) ∧ w = [xoC x (ta 0) (aj 0) (me 0) sl sv (bd 0) sp] ++ (stW ad R τ ++ (stW bd ((aShow R t x1).2) τ ++ meW me (mN n) (mO n o) (mR rg n o (ad 0)) τ))) (fun E w => xEx (aShow R t x1).1 E ∧ ∃ T2, w = [xoC x (ta 0) (aj 0) (me 0) sl sv (ad 0) (bd 0)] ++ (stW ad R τ ++ (stW bd T2 τ ++ meW me n o rg τ))) := by
  refine uMet_of (cc := cX9_show) (maxL := 3) (ret := (some .int)) (lv := [(0, Value.ref x), (1, Value.int (iI t)), (2, Value.int (iI x1))]) (by decide) rfl (Nat.le_of_ble_eq_true rfl) rfl ?_
  intro p e s m below meth c hx hb hr hml hts hown hlocks ht A H hP hD hS hK hZT hZU ls hl
  have hP_x := va_left hP
  have hP_s := va_left (va_right hP)
  have hP_t := va_left (va_right (va_right hP))
  have hP_m := va_right (va_right (va_right hP))
  refine lv_aload_n hx hb dX9_show_0 rfl (lv_at hl 0 rfl) ?_
  refine lv_aload_n hx hb dX9_show_1 rfl (lv_at hl 0 rfl) ?_
  refine rq_V (As := []) (rest := [Value.ref x]) ⟨hx, hb, hml, hown, hts⟩ (c_X9_freshTrial l g τ x sl sv ta aj me ad bd R T) gX9_show_X9_freshTrial cd_X9_freshTrial rfl rfl ⟨rfl, rfl⟩ ⟨Nat.le_of_ble_eq_true rfl, Nat.le_of_ble_eq_true rfl⟩ hK hP hD hS (pm4_012 _ _ _ _) 0 rfl rfl rfl rfl hl rfl (Nat.le_of_ble_eq_true rfl) dX9_show_2 ⟨Nat.le_of_ble_eq_true rfl, Nat.le_of_ble_eq_true rfl⟩ (fun v w h => by rw [h.2]; exact f_xst _ _ _ _ _ _ _ _) (fun v w1 H locs hZ hP hD hS => ?_)
  obtain ⟨rfl, rfl⟩ := hZ
  have hP : va_P g vwCl ([xoC x (ta 0) (aj 0) (me 0) sl sv (ad 0) (bd 0)] ++ (stW ad R τ ++ (stW bd R τ ++ meW me n o rg τ))) H := hP.pm (pm4_012 _ _ _ _).symm
  have hD : va_D A ([xoC x (ta 0) (aj 0) (me 0) sl sv (ad 0) (bd 0)] ++ (stW ad R τ ++ (stW bd R τ ++ meW me n o rg τ))) := hD.pm (pm4_012 _ _ _ _).symm
  have hP_x := va_left hP
  have hP_s := va_left (va_right hP)
  have hP_t := va_left (va_right (va_right hP))
  have hP_m := va_right (va_right (va_right hP))
  refine tl_some ?_
  refine lv_iload_n hx hb dX9_show_5 rfl (lv_at hl 1 rfl) ?_
  refine lv_iload_n hx hb dX9_show_6 rfl (lv_at hl 2 rfl) ?_
  refine rq_V (As := [Value.int (iI t), Value.int (iI x1)]) (rest := [Value.ref x]) ⟨hx, hb, hml, hown, hts⟩ (c_X6_showCracks l g τ bd R hI t ⟨by omega, by omega⟩ x1 ⟨by omega, by omega⟩) gX9_show_X6_showCracks cd_X6_showCracks rfl rfl ⟨rfl, rfl⟩ ⟨Nat.le_of_ble_eq_true rfl, Nat.le_of_ble_eq_true rfl⟩ hK hP hD hS (pm4_2 _ _ _ _) 0 rfl rfl rfl rfl hl rfl (Nat.le_of_ble_eq_true rfl) dX9_show_7 ⟨Nat.le_of_ble_eq_true rfl, Nat.le_of_ble_eq_true rfl⟩ (fun v w h => by rw [h.2]; exact f_stx bd ta _ _ _) (fun v w1 H locs hZ hP hD hS => ?_)
  obtain ⟨rfl, rfl⟩ := hZ
  have hP : va_P g vwCl ([xoC x (ta 0) (aj 0) (me 0) sl sv (ad 0) (bd 0)] ++ (stW ad R τ ++ (stW bd ((aShow R t x1).2) τ ++ meW me n o rg τ))) H := hP.pm (pm4_2 _ _ _ _).symm
  have hD : va_D A ([xoC x (ta 0) (aj 0) (me 0) sl sv (ad 0) (bd 0)] ++ (stW ad R τ ++ (stW bd ((aShow R t x1).2) τ ++ meW me n o rg τ))) := hD.pm (pm4_2 _ _ _ _).symm
  have hP_x := va_left hP
  have hP_s := va_left (va_right hP)
  have hP_t := va_left (va_right (va_right hP))
  have hP_m := va_right (va_right (va_right hP))
  refine tl_some ?_
  have hra := aShow_r hI t x1
  refine ru_V (As := [Value.int (iI ((aShow R t x1).1))]) (rest := []) ⟨hx, hb, hml, hown, hts⟩ (c_X9_finish l hst g τ x sl sv ta aj me ad bd R n o rg hn ho sp hsp ((aShow R t x1).1) ⟨by omega, by omega⟩) gX9_show_X9_finish cd_X9_finish rfl rfl ⟨rfl, rfl⟩ ⟨Nat.le_of_ble_eq_true rfl, Nat.le_of_ble_eq_true rfl⟩ hK hZT hZU hP hD hS (pm4_031 _ _ _ _) 0 rfl rfl rfl rfl hl rfl (Nat.le_of_ble_eq_true rfl) dX9_show_10 ⟨Nat.le_of_ble_eq_true rfl, Nat.le_of_ble_eq_true rfl⟩ (fun v w h => by rw [h.2.2]; exact f_xms _ _ _ _ _ _ _ _ _ _ _ _ _ _ _ _ _ _ _ _) (fun E w h => by rw [h.1]) (fun E w1 H locs q9 ce9 hZ hP hD hS a1 a2 a3 => ?_) (fun v w1 H locs hZ hP hD hS => ?_)
  · skip
    obtain ⟨rfl, hE⟩ := hZ
    have hP : va_P g vwCl ([xoC x (ta 0) (aj 0) (me 0) sl sv (ad 0) (bd 0)] ++ (stW ad R τ ++ (stW bd ((aShow R t x1).2) τ ++ meW me n o rg τ))) H := hP.pm (pm4_031 _ _ _ _).symm
    exact u_out ht hlocks a1 a2 a3 hP hS ⟨Nat.le_of_ble_eq_true rfl, Nat.le_of_ble_eq_true rfl⟩ (⟨hE, _, rfl⟩)
  · skip
    obtain ⟨⟨hm2, hm3, hm4⟩, rfl, rfl⟩ := hZ
    have hP : va_P g vwCl ([xoC x (ta 0) (aj 0) (me 0) sl sv (bd 0) sp] ++ (stW ad R τ ++ (stW bd ((aShow R t x1).2) τ ++ meW me (mN n) (mO n o) (mR rg n o (ad 0)) τ))) H := hP.pm (pm4_031 _ _ _ _).symm
    have hD : va_D A ([xoC x (ta 0) (aj 0) (me 0) sl sv (bd 0) sp] ++ (stW ad R τ ++ (stW bd ((aShow R t x1).2) τ ++ meW me (mN n) (mO n o) (mR rg n o (ad 0)) τ))) := hD.pm (pm4_031 _ _ _ _).symm
    have hP_x := va_left hP
    have hP_s := va_left (va_right hP)
    have hP_t := va_left (va_right (va_right hP))
    have hP_m := va_right (va_right (va_right hP))
    refine tl_some ?_
    exact u_iret hx hb hr hlocks hP hS ⟨Nat.le_of_ble_eq_true rfl, Nat.le_of_ble_eq_true rfl⟩ (⟨by omega, rfl, rfl⟩) dX9_show_13

theorem cd_X9_hang : cd yX9_hang 2 := by decide +kernel
set_option maxHeartbeats 1000000 in
set_option maxRecDepth 100000 in
theorem c_X9_hang (l : Launch) (hst : l.stackTraces = false) (g : va_G) (τ : Nat → ClassId) (x sl sv : Nat) (ta aj me ad bd : Nat → Nat) (R T : Nat → Nat → Int) (hI : SI R) (n o : Int) (rg : Nat → Option Nat) (hn : 0 ≤ n ∧ n ≤ 14) (ho : 0 ≤ o ∧ o < 14) (sp : Nat) (hsp : rg ((o + n) % 14).toNat = some sp) (t : Int) (rt : -2147483648 ≤ t ∧ t < 2147483648) (q : Int) (rq : -2147483648 ≤ q ∧ q < 2147483648)  : uMet l yX9_hang wsX9_hang { frames := 9, cells := 1, slots := 6, locals := 152 } g τ [Value.ref x, Value.int (iI t), Value.int (iI q)] ([xoC x (ta 0) (aj 0) (me 0) sl sv (ad 0) (bd 0)] ++ (stW ad R τ ++ (stW bd T τ ++ meW me n o rg τ))) (fun v w => 0 ≤ (aHang R t q).1 ∧ v = some (Value.int (iI (aHang R t q).1)) ∧ w = [xoC x (ta 0) (aj 0) (me 0) sl sv (bd 0) sp] ++ (stW ad R τ ++ (stW bd ((aHang R t q).2) τ ++ meW me (mN n) (mO n o) (mR rg n o (ad 0)) τ))) (fun E w => xEx (aHang R t q).1 E ∧ ∃ T2, w = [xoC x (ta 0) (aj 0) (me 0) sl sv (ad 0) (bd 0)] ++ (stW ad R τ ++ (stW bd T2 τ ++ meW me n o rg τ))) := by
  refine uMet_of (cc := cX9_hang) (maxL := 3) (ret := (some .int)) (lv := [(0, Value.ref x), (1, Value.int (iI t)), (2, Value.int (iI q))]) (by decide) rfl (Nat.le_of_ble_eq_true rfl) rfl ?_
  intro p e s m below meth c hx hb hr hml hts hown hlocks ht A H hP hD hS hK hZT hZU ls hl
  have hP_x := va_left hP
  have hP_s := va_left (va_right hP)
  have hP_t := va_left (va_right (va_right hP))
  have hP_m := va_right (va_right (va_right hP))
  refine lv_aload_n hx hb dX9_hang_0 rfl (lv_at hl 0 rfl) ?_
  refine lv_aload_n hx hb dX9_hang_1 rfl (lv_at hl 0 rfl) ?_
  refine rq_V (As := []) (rest := [Value.ref x]) ⟨hx, hb, hml, hown, hts⟩ (c_X9_freshTrial l g τ x sl sv ta aj me ad bd R T) gX9_hang_X9_freshTrial cd_X9_freshTrial rfl rfl ⟨rfl, rfl⟩ ⟨Nat.le_of_ble_eq_true rfl, Nat.le_of_ble_eq_true rfl⟩ hK hP hD hS (pm4_012 _ _ _ _) 0 rfl rfl rfl rfl hl rfl (Nat.le_of_ble_eq_true rfl) dX9_hang_2 ⟨Nat.le_of_ble_eq_true rfl, Nat.le_of_ble_eq_true rfl⟩ (fun v w h => by rw [h.2]; exact f_xst _ _ _ _ _ _ _ _) (fun v w1 H locs hZ hP hD hS => ?_)
  obtain ⟨rfl, rfl⟩ := hZ
  have hP : va_P g vwCl ([xoC x (ta 0) (aj 0) (me 0) sl sv (ad 0) (bd 0)] ++ (stW ad R τ ++ (stW bd R τ ++ meW me n o rg τ))) H := hP.pm (pm4_012 _ _ _ _).symm
  have hD : va_D A ([xoC x (ta 0) (aj 0) (me 0) sl sv (ad 0) (bd 0)] ++ (stW ad R τ ++ (stW bd R τ ++ meW me n o rg τ))) := hD.pm (pm4_012 _ _ _ _).symm
  have hP_x := va_left hP
  have hP_s := va_left (va_right hP)
  have hP_t := va_left (va_right (va_right hP))
  have hP_m := va_right (va_right (va_right hP))
  refine tl_some ?_
  refine lv_iload_n hx hb dX9_hang_5 rfl (lv_at hl 1 rfl) ?_
  refine lv_iload_n hx hb dX9_hang_6 rfl (lv_at hl 2 rfl) ?_
  refine rq_V (As := [Value.int (iI t), Value.int (iI q)]) (rest := [Value.ref x]) ⟨hx, hb, hml, hown, hts⟩ (c_X6_hangOn l g τ bd R hI t ⟨by omega, by omega⟩ q ⟨by omega, by omega⟩) gX9_hang_X6_hangOn cd_X6_hangOn rfl rfl ⟨rfl, rfl⟩ ⟨Nat.le_of_ble_eq_true rfl, Nat.le_of_ble_eq_true rfl⟩ hK hP hD hS (pm4_2 _ _ _ _) 0 rfl rfl rfl rfl hl rfl (Nat.le_of_ble_eq_true rfl) dX9_hang_7 ⟨Nat.le_of_ble_eq_true rfl, Nat.le_of_ble_eq_true rfl⟩ (fun v w h => by rw [h.2]; exact f_stx bd ta _ _ _) (fun v w1 H locs hZ hP hD hS => ?_)
  obtain ⟨rfl, rfl⟩ := hZ
  have hP : va_P g vwCl ([xoC x (ta 0) (aj 0) (me 0) sl sv (ad 0) (bd 0)] ++ (stW ad R τ ++ (stW bd ((aHang R t q).2) τ ++ meW me n o rg τ))) H := hP.pm (pm4_2 _ _ _ _).symm
  have hD : va_D A ([xoC x (ta 0) (aj 0) (me 0) sl sv (ad 0) (bd 0)] ++ (stW ad R τ ++ (stW bd ((aHang R t q).2) τ ++ meW me n o rg τ))) := hD.pm (pm4_2 _ _ _ _).symm
  have hP_x := va_left hP
  have hP_s := va_left (va_right hP)
  have hP_t := va_left (va_right (va_right hP))
  have hP_m := va_right (va_right (va_right hP))
  refine tl_some ?_
  have hra := aHang_r hI t q
  refine ru_V (As := [Value.int (iI ((aHang R t q).1))]) (rest := []) ⟨hx, hb, hml, hown, hts⟩ (c_X9_finish l hst g τ x sl sv ta aj me ad bd R n o rg hn ho sp hsp ((aHang R t q).1) ⟨by omega, by omega⟩) gX9_hang_X9_finish cd_X9_finish rfl rfl ⟨rfl, rfl⟩ ⟨Nat.le_of_ble_eq_true rfl, Nat.le_of_ble_eq_true rfl⟩ hK hZT hZU hP hD hS (pm4_031 _ _ _ _) 0 rfl rfl rfl rfl hl rfl (Nat.le_of_ble_eq_true rfl) dX9_hang_10 ⟨Nat.le_of_ble_eq_true rfl, Nat.le_of_ble_eq_true rfl⟩ (fun v w h => by rw [h.2.2]; exact f_xms _ _ _ _ _ _ _ _ _ _ _ _ _ _ _ _ _ _ _ _) (fun E w h => by rw [h.1]) (fun E w1 H locs q9 ce9 hZ hP hD hS a1 a2 a3 => ?_) (fun v w1 H locs hZ hP hD hS => ?_)
  · skip
    obtain ⟨rfl, hE⟩ := hZ
    have hP : va_P g vwCl ([xoC x (ta 0) (aj 0) (me 0) sl sv (ad 0) (bd 0)] ++ (stW ad R τ ++ (stW bd ((aHang R t q).2) τ ++ meW me n o rg τ))) H := hP.pm (pm4_031 _ _ _ _).symm
    exact u_out ht hlocks a1 a2 a3 hP hS ⟨Nat.le_of_ble_eq_true rfl, Nat.le_of_ble_eq_true rfl⟩ (⟨hE, _, rfl⟩)
  · skip
    obtain ⟨⟨hm2, hm3, hm4⟩, rfl, rfl⟩ := hZ
    have hP : va_P g vwCl ([xoC x (ta 0) (aj 0) (me 0) sl sv (bd 0) sp] ++ (stW ad R τ ++ (stW bd ((aHang R t q).2) τ ++ meW me (mN n) (mO n o) (mR rg n o (ad 0)) τ))) H := hP.pm (pm4_031 _ _ _ _).symm
    have hD : va_D A ([xoC x (ta 0) (aj 0) (me 0) sl sv (bd 0) sp] ++ (stW ad R τ ++ (stW bd ((aHang R t q).2) τ ++ meW me (mN n) (mO n o) (mR rg n o (ad 0)) τ))) := hD.pm (pm4_031 _ _ _ _).symm
    have hP_x := va_left hP
    have hP_s := va_left (va_right hP)
    have hP_t := va_left (va_right (va_right hP))
    have hP_m := va_right (va_right (va_right hP))
    refine tl_some ?_
    exact u_iret hx hb hr hlocks hP hS ⟨Nat.le_of_ble_eq_true rfl, Nat.le_of_ble_eq_true rfl⟩ (⟨by omega, rfl, rfl⟩) dX9_hang_13

theorem cd_X9_cut : cd yX9_cut 1 := by decide +kernel
set_option maxHeartbeats 1000000 in
set_option maxRecDepth 100000 in
theorem c_X9_cut (l : Launch) (hst : l.stackTraces = false) (g : va_G) (τ : Nat → ClassId) (x sl sv : Nat) (ta aj me ad bd : Nat → Nat) (R T : Nat → Nat → Int) (hI : SI R) (n o : Int) (rg : Nat → Option Nat) (hn : 0 ≤ n ∧ n ≤ 14) (ho : 0 ≤ o ∧ o < 14) (sp : Nat) (hsp : rg ((o + n) % 14).toNat = some sp) (t : Int) (rt : -2147483648 ≤ t ∧ t < 2147483648)  : uMet l yX9_cut wsX9_cut { frames := 9, cells := 1, slots := 6, locals := 152 } g τ [Value.ref x, Value.int (iI t)] ([xoC x (ta 0) (aj 0) (me 0) sl sv (ad 0) (bd 0)] ++ (stW ad R τ ++ (stW bd T τ ++ meW me n o rg τ))) (fun v w => 0 ≤ (aCut R t).1 ∧ v = some (Value.int (iI (aCut R t).1)) ∧ w = [xoC x (ta 0) (aj 0) (me 0) sl sv (bd 0) sp] ++ (stW ad R τ ++ (stW bd ((aCut R t).2) τ ++ meW me (mN n) (mO n o) (mR rg n o (ad 0)) τ))) (fun E w => xEx (aCut R t).1 E ∧ ∃ T2, w = [xoC x (ta 0) (aj 0) (me 0) sl sv (ad 0) (bd 0)] ++ (stW ad R τ ++ (stW bd T2 τ ++ meW me n o rg τ))) := by
  refine uMet_of (cc := cX9_cut) (maxL := 2) (ret := (some .int)) (lv := [(0, Value.ref x), (1, Value.int (iI t))]) (by decide) rfl (Nat.le_of_ble_eq_true rfl) rfl ?_
  intro p e s m below meth c hx hb hr hml hts hown hlocks ht A H hP hD hS hK hZT hZU ls hl
  have hP_x := va_left hP
  have hP_s := va_left (va_right hP)
  have hP_t := va_left (va_right (va_right hP))
  have hP_m := va_right (va_right (va_right hP))
  refine lv_aload_n hx hb dX9_cut_0 rfl (lv_at hl 0 rfl) ?_
  refine lv_aload_n hx hb dX9_cut_1 rfl (lv_at hl 0 rfl) ?_
  refine rq_V (As := []) (rest := [Value.ref x]) ⟨hx, hb, hml, hown, hts⟩ (c_X9_freshTrial l g τ x sl sv ta aj me ad bd R T) gX9_cut_X9_freshTrial cd_X9_freshTrial rfl rfl ⟨rfl, rfl⟩ ⟨Nat.le_of_ble_eq_true rfl, Nat.le_of_ble_eq_true rfl⟩ hK hP hD hS (pm4_012 _ _ _ _) 0 rfl rfl rfl rfl hl rfl (Nat.le_of_ble_eq_true rfl) dX9_cut_2 ⟨Nat.le_of_ble_eq_true rfl, Nat.le_of_ble_eq_true rfl⟩ (fun v w h => by rw [h.2]; exact f_xst _ _ _ _ _ _ _ _) (fun v w1 H locs hZ hP hD hS => ?_)
  obtain ⟨rfl, rfl⟩ := hZ
  have hP : va_P g vwCl ([xoC x (ta 0) (aj 0) (me 0) sl sv (ad 0) (bd 0)] ++ (stW ad R τ ++ (stW bd R τ ++ meW me n o rg τ))) H := hP.pm (pm4_012 _ _ _ _).symm
  have hD : va_D A ([xoC x (ta 0) (aj 0) (me 0) sl sv (ad 0) (bd 0)] ++ (stW ad R τ ++ (stW bd R τ ++ meW me n o rg τ))) := hD.pm (pm4_012 _ _ _ _).symm
  have hP_x := va_left hP
  have hP_s := va_left (va_right hP)
  have hP_t := va_left (va_right (va_right hP))
  have hP_m := va_right (va_right (va_right hP))
  refine tl_some ?_
  refine lv_iload_n hx hb dX9_cut_5 rfl (lv_at hl 1 rfl) ?_
  refine rq_V (As := [Value.int (iI t)]) (rest := [Value.ref x]) ⟨hx, hb, hml, hown, hts⟩ (c_X6_cutOff l g τ bd R hI t ⟨by omega, by omega⟩) gX9_cut_X6_cutOff cd_X6_cutOff rfl rfl ⟨rfl, rfl⟩ ⟨Nat.le_of_ble_eq_true rfl, Nat.le_of_ble_eq_true rfl⟩ hK hP hD hS (pm4_2 _ _ _ _) 0 rfl rfl rfl rfl hl rfl (Nat.le_of_ble_eq_true rfl) dX9_cut_6 ⟨Nat.le_of_ble_eq_true rfl, Nat.le_of_ble_eq_true rfl⟩ (fun v w h => by rw [h.2]; exact f_stx bd ta _ _ _) (fun v w1 H locs hZ hP hD hS => ?_)
  obtain ⟨rfl, rfl⟩ := hZ
  have hP : va_P g vwCl ([xoC x (ta 0) (aj 0) (me 0) sl sv (ad 0) (bd 0)] ++ (stW ad R τ ++ (stW bd ((aCut R t).2) τ ++ meW me n o rg τ))) H := hP.pm (pm4_2 _ _ _ _).symm
  have hD : va_D A ([xoC x (ta 0) (aj 0) (me 0) sl sv (ad 0) (bd 0)] ++ (stW ad R τ ++ (stW bd ((aCut R t).2) τ ++ meW me n o rg τ))) := hD.pm (pm4_2 _ _ _ _).symm
  have hP_x := va_left hP
  have hP_s := va_left (va_right hP)
  have hP_t := va_left (va_right (va_right hP))
  have hP_m := va_right (va_right (va_right hP))
  refine tl_some ?_
  have hra := aCut_r hI t
  refine ru_V (As := [Value.int (iI ((aCut R t).1))]) (rest := []) ⟨hx, hb, hml, hown, hts⟩ (c_X9_finish l hst g τ x sl sv ta aj me ad bd R n o rg hn ho sp hsp ((aCut R t).1) ⟨by omega, by omega⟩) gX9_cut_X9_finish cd_X9_finish rfl rfl ⟨rfl, rfl⟩ ⟨Nat.le_of_ble_eq_true rfl, Nat.le_of_ble_eq_true rfl⟩ hK hZT hZU hP hD hS (pm4_031 _ _ _ _) 0 rfl rfl rfl rfl hl rfl (Nat.le_of_ble_eq_true rfl) dX9_cut_9 ⟨Nat.le_of_ble_eq_true rfl, Nat.le_of_ble_eq_true rfl⟩ (fun v w h => by rw [h.2.2]; exact f_xms _ _ _ _ _ _ _ _ _ _ _ _ _ _ _ _ _ _ _ _) (fun E w h => by rw [h.1]) (fun E w1 H locs q9 ce9 hZ hP hD hS a1 a2 a3 => ?_) (fun v w1 H locs hZ hP hD hS => ?_)
  · skip
    obtain ⟨rfl, hE⟩ := hZ
    have hP : va_P g vwCl ([xoC x (ta 0) (aj 0) (me 0) sl sv (ad 0) (bd 0)] ++ (stW ad R τ ++ (stW bd ((aCut R t).2) τ ++ meW me n o rg τ))) H := hP.pm (pm4_031 _ _ _ _).symm
    exact u_out ht hlocks a1 a2 a3 hP hS ⟨Nat.le_of_ble_eq_true rfl, Nat.le_of_ble_eq_true rfl⟩ (⟨hE, _, rfl⟩)
  · skip
    obtain ⟨⟨hm2, hm3, hm4⟩, rfl, rfl⟩ := hZ
    have hP : va_P g vwCl ([xoC x (ta 0) (aj 0) (me 0) sl sv (bd 0) sp] ++ (stW ad R τ ++ (stW bd ((aCut R t).2) τ ++ meW me (mN n) (mO n o) (mR rg n o (ad 0)) τ))) H := hP.pm (pm4_031 _ _ _ _).symm
    have hD : va_D A ([xoC x (ta 0) (aj 0) (me 0) sl sv (bd 0) sp] ++ (stW ad R τ ++ (stW bd ((aCut R t).2) τ ++ meW me (mN n) (mO n o) (mR rg n o (ad 0)) τ))) := hD.pm (pm4_031 _ _ _ _).symm
    have hP_x := va_left hP
    have hP_s := va_left (va_right hP)
    have hP_t := va_left (va_right (va_right hP))
    have hP_m := va_right (va_right (va_right hP))
    refine tl_some ?_
    exact u_iret hx hb hr hlocks hP hS ⟨Nat.le_of_ble_eq_true rfl, Nat.le_of_ble_eq_true rfl⟩ (⟨by omega, rfl, rfl⟩) dX9_cut_12

theorem cd_X9_shelve : cd yX9_shelve 3 := by decide +kernel
set_option maxHeartbeats 1000000 in
set_option maxRecDepth 100000 in
theorem c_X9_shelve (l : Launch) (hst : l.stackTraces = false) (g : va_G) (τ : Nat → ClassId) (x sl sv : Nat) (ta aj me ad bd : Nat → Nat) (R T : Nat → Nat → Int) (hI : SI R) (n o : Int) (rg : Nat → Option Nat) (hn : 0 ≤ n ∧ n ≤ 14) (ho : 0 ≤ o ∧ o < 14) (sp : Nat) (hsp : rg ((o + n) % 14).toNat = some sp) (t : Int) (rt : -2147483648 ≤ t ∧ t < 2147483648) (h1 : Int) (rh1 : -2147483648 ≤ h1 ∧ h1 < 2147483648) (k : Int) (rk : -2147483648 ≤ k ∧ k < 2147483648)  : uMet l yX9_shelve wsX9_shelve { frames := 9, cells := 1, slots := 6, locals := 152 } g τ [Value.ref x, Value.int (iI t), Value.int (iI h1), Value.int (iI k)] ([xoC x (ta 0) (aj 0) (me 0) sl sv (ad 0) (bd 0)] ++ (stW ad R τ ++ (stW bd T τ ++ meW me n o rg τ))) (fun v w => 0 ≤ (aShelve R t h1 k).1 ∧ v = some (Value.int (iI (aShelve R t h1 k).1)) ∧ w = [xoC x (ta 0) (aj 0) (me 0) sl sv (bd 0) sp] ++ (stW ad R τ ++ (stW bd ((aShelve R t h1 k).2) τ ++ meW me (mN n) (mO n o) (mR rg n o (ad 0)) τ))) (fun E w => xEx (aShelve R t h1 k).1 E ∧ ∃ T2, w = [xoC x (ta 0) (aj 0) (me 0) sl sv (ad 0) (bd 0)] ++ (stW ad R τ ++ (stW bd T2 τ ++ meW me n o rg τ))) := by
  refine uMet_of (cc := cX9_shelve) (maxL := 4) (ret := (some .int)) (lv := [(0, Value.ref x), (1, Value.int (iI t)), (2, Value.int (iI h1)), (3, Value.int (iI k))]) (by decide) rfl (Nat.le_of_ble_eq_true rfl) rfl ?_
  intro p e s m below meth c hx hb hr hml hts hown hlocks ht A H hP hD hS hK hZT hZU ls hl
  have hP_x := va_left hP
  have hP_s := va_left (va_right hP)
  have hP_t := va_left (va_right (va_right hP))
  have hP_m := va_right (va_right (va_right hP))
  refine lv_aload_n hx hb dX9_shelve_0 rfl (lv_at hl 0 rfl) ?_
  refine lv_aload_n hx hb dX9_shelve_1 rfl (lv_at hl 0 rfl) ?_
  refine rq_V (As := []) (rest := [Value.ref x]) ⟨hx, hb, hml, hown, hts⟩ (c_X9_freshTrial l g τ x sl sv ta aj me ad bd R T) gX9_shelve_X9_freshTrial cd_X9_freshTrial rfl rfl ⟨rfl, rfl⟩ ⟨Nat.le_of_ble_eq_true rfl, Nat.le_of_ble_eq_true rfl⟩ hK hP hD hS (pm4_012 _ _ _ _) 0 rfl rfl rfl rfl hl rfl (Nat.le_of_ble_eq_true rfl) dX9_shelve_2 ⟨Nat.le_of_ble_eq_true rfl, Nat.le_of_ble_eq_true rfl⟩ (fun v w h => by rw [h.2]; exact f_xst _ _ _ _ _ _ _ _) (fun v w1 H locs hZ hP hD hS => ?_)
  obtain ⟨rfl, rfl⟩ := hZ
  have hP : va_P g vwCl ([xoC x (ta 0) (aj 0) (me 0) sl sv (ad 0) (bd 0)] ++ (stW ad R τ ++ (stW bd R τ ++ meW me n o rg τ))) H := hP.pm (pm4_012 _ _ _ _).symm
  have hD : va_D A ([xoC x (ta 0) (aj 0) (me 0) sl sv (ad 0) (bd 0)] ++ (stW ad R τ ++ (stW bd R τ ++ meW me n o rg τ))) := hD.pm (pm4_012 _ _ _ _).symm
  have hP_x := va_left hP
  have hP_s := va_left (va_right hP)
  have hP_t := va_left (va_right (va_right hP))
  have hP_m := va_right (va_right (va_right hP))
  refine tl_some ?_
  refine lv_iload_n hx hb dX9_shelve_5 rfl (lv_at hl 1 rfl) ?_
  refine lv_iload_n hx hb dX9_shelve_6 rfl (lv_at hl 2 rfl) ?_
  refine lv_iload_n hx hb dX9_shelve_7 rfl (lv_at hl 3 rfl) ?_
  refine rq_V (As := [Value.int (iI t), Value.int (iI h1), Value.int (iI k)]) (rest := [Value.ref x]) ⟨hx, hb, hml, hown, hts⟩ (c_X6_putOnShelf l g τ bd R hI t ⟨by omega, by omega⟩ h1 ⟨by omega, by omega⟩ k ⟨by omega, by omega⟩) gX9_shelve_X6_putOnShelf cd_X6_putOnShelf rfl rfl ⟨rfl, rfl⟩ ⟨Nat.le_of_ble_eq_true rfl, Nat.le_of_ble_eq_true rfl⟩ hK hP hD hS (pm4_2 _ _ _ _) 0 rfl rfl rfl rfl hl rfl (Nat.le_of_ble_eq_true rfl) dX9_shelve_8 ⟨Nat.le_of_ble_eq_true rfl, Nat.le_of_ble_eq_true rfl⟩ (fun v w h => by rw [h.2]; exact f_stx bd ta _ _ _) (fun v w1 H locs hZ hP hD hS => ?_)
  obtain ⟨rfl, rfl⟩ := hZ
  have hP : va_P g vwCl ([xoC x (ta 0) (aj 0) (me 0) sl sv (ad 0) (bd 0)] ++ (stW ad R τ ++ (stW bd ((aShelve R t h1 k).2) τ ++ meW me n o rg τ))) H := hP.pm (pm4_2 _ _ _ _).symm
  have hD : va_D A ([xoC x (ta 0) (aj 0) (me 0) sl sv (ad 0) (bd 0)] ++ (stW ad R τ ++ (stW bd ((aShelve R t h1 k).2) τ ++ meW me n o rg τ))) := hD.pm (pm4_2 _ _ _ _).symm
  have hP_x := va_left hP
  have hP_s := va_left (va_right hP)
  have hP_t := va_left (va_right (va_right hP))
  have hP_m := va_right (va_right (va_right hP))
  refine tl_some ?_
  have hra := aShelve_r hI t h1 k
  refine ru_V (As := [Value.int (iI ((aShelve R t h1 k).1))]) (rest := []) ⟨hx, hb, hml, hown, hts⟩ (c_X9_finish l hst g τ x sl sv ta aj me ad bd R n o rg hn ho sp hsp ((aShelve R t h1 k).1) ⟨by omega, by omega⟩) gX9_shelve_X9_finish cd_X9_finish rfl rfl ⟨rfl, rfl⟩ ⟨Nat.le_of_ble_eq_true rfl, Nat.le_of_ble_eq_true rfl⟩ hK hZT hZU hP hD hS (pm4_031 _ _ _ _) 0 rfl rfl rfl rfl hl rfl (Nat.le_of_ble_eq_true rfl) dX9_shelve_11 ⟨Nat.le_of_ble_eq_true rfl, Nat.le_of_ble_eq_true rfl⟩ (fun v w h => by rw [h.2.2]; exact f_xms _ _ _ _ _ _ _ _ _ _ _ _ _ _ _ _ _ _ _ _) (fun E w h => by rw [h.1]) (fun E w1 H locs q9 ce9 hZ hP hD hS a1 a2 a3 => ?_) (fun v w1 H locs hZ hP hD hS => ?_)
  · skip
    obtain ⟨rfl, hE⟩ := hZ
    have hP : va_P g vwCl ([xoC x (ta 0) (aj 0) (me 0) sl sv (ad 0) (bd 0)] ++ (stW ad R τ ++ (stW bd ((aShelve R t h1 k).2) τ ++ meW me n o rg τ))) H := hP.pm (pm4_031 _ _ _ _).symm
    exact u_out ht hlocks a1 a2 a3 hP hS ⟨Nat.le_of_ble_eq_true rfl, Nat.le_of_ble_eq_true rfl⟩ (⟨hE, _, rfl⟩)
  · skip
    obtain ⟨⟨hm2, hm3, hm4⟩, rfl, rfl⟩ := hZ
    have hP : va_P g vwCl ([xoC x (ta 0) (aj 0) (me 0) sl sv (bd 0) sp] ++ (stW ad R τ ++ (stW bd ((aShelve R t h1 k).2) τ ++ meW me (mN n) (mO n o) (mR rg n o (ad 0)) τ))) H := hP.pm (pm4_031 _ _ _ _).symm
    have hD : va_D A ([xoC x (ta 0) (aj 0) (me 0) sl sv (bd 0) sp] ++ (stW ad R τ ++ (stW bd ((aShelve R t h1 k).2) τ ++ meW me (mN n) (mO n o) (mR rg n o (ad 0)) τ))) := hD.pm (pm4_031 _ _ _ _).symm
    have hP_x := va_left hP
    have hP_s := va_left (va_right hP)
    have hP_t := va_left (va_right (va_right hP))
    have hP_m := va_right (va_right (va_right hP))
    refine tl_some ?_
    exact u_iret hx hb hr hlocks hP hS ⟨Nat.le_of_ble_eq_true rfl, Nat.le_of_ble_eq_true rfl⟩ (⟨by omega, rfl, rfl⟩) dX9_shelve_14

theorem cd_X9_take : cd yX9_take 1 := by decide +kernel
set_option maxHeartbeats 1000000 in
set_option maxRecDepth 100000 in
theorem c_X9_take (l : Launch) (hst : l.stackTraces = false) (g : va_G) (τ : Nat → ClassId) (x sl sv : Nat) (ta aj me ad bd : Nat → Nat) (R T : Nat → Nat → Int) (hI : SI R) (n o : Int) (rg : Nat → Option Nat) (hn : 0 ≤ n ∧ n ≤ 14) (ho : 0 ≤ o ∧ o < 14) (sp : Nat) (hsp : rg ((o + n) % 14).toNat = some sp) (t : Int) (rt : -2147483648 ≤ t ∧ t < 2147483648)  : uMet l yX9_take wsX9_take { frames := 9, cells := 1, slots := 6, locals := 152 } g τ [Value.ref x, Value.int (iI t)] ([xoC x (ta 0) (aj 0) (me 0) sl sv (ad 0) (bd 0)] ++ (stW ad R τ ++ (stW bd T τ ++ meW me n o rg τ))) (fun v w => 0 ≤ (aTake R t).1 ∧ v = some (Value.int (iI (aTake R t).1)) ∧ w = [xoC x (ta 0) (aj 0) (me 0) sl sv (bd 0) sp] ++ (stW ad R τ ++ (stW bd ((aTake R t).2) τ ++ meW me (mN n) (mO n o) (mR rg n o (ad 0)) τ))) (fun E w => xEx (aTake R t).1 E ∧ ∃ T2, w = [xoC x (ta 0) (aj 0) (me 0) sl sv (ad 0) (bd 0)] ++ (stW ad R τ ++ (stW bd T2 τ ++ meW me n o rg τ))) := by
  refine uMet_of (cc := cX9_take) (maxL := 2) (ret := (some .int)) (lv := [(0, Value.ref x), (1, Value.int (iI t))]) (by decide) rfl (Nat.le_of_ble_eq_true rfl) rfl ?_
  intro p e s m below meth c hx hb hr hml hts hown hlocks ht A H hP hD hS hK hZT hZU ls hl
  have hP_x := va_left hP
  have hP_s := va_left (va_right hP)
  have hP_t := va_left (va_right (va_right hP))
  have hP_m := va_right (va_right (va_right hP))
  refine lv_aload_n hx hb dX9_take_0 rfl (lv_at hl 0 rfl) ?_
  refine lv_aload_n hx hb dX9_take_1 rfl (lv_at hl 0 rfl) ?_
  refine rq_V (As := []) (rest := [Value.ref x]) ⟨hx, hb, hml, hown, hts⟩ (c_X9_freshTrial l g τ x sl sv ta aj me ad bd R T) gX9_take_X9_freshTrial cd_X9_freshTrial rfl rfl ⟨rfl, rfl⟩ ⟨Nat.le_of_ble_eq_true rfl, Nat.le_of_ble_eq_true rfl⟩ hK hP hD hS (pm4_012 _ _ _ _) 0 rfl rfl rfl rfl hl rfl (Nat.le_of_ble_eq_true rfl) dX9_take_2 ⟨Nat.le_of_ble_eq_true rfl, Nat.le_of_ble_eq_true rfl⟩ (fun v w h => by rw [h.2]; exact f_xst _ _ _ _ _ _ _ _) (fun v w1 H locs hZ hP hD hS => ?_)
  obtain ⟨rfl, rfl⟩ := hZ
  have hP : va_P g vwCl ([xoC x (ta 0) (aj 0) (me 0) sl sv (ad 0) (bd 0)] ++ (stW ad R τ ++ (stW bd R τ ++ meW me n o rg τ))) H := hP.pm (pm4_012 _ _ _ _).symm
  have hD : va_D A ([xoC x (ta 0) (aj 0) (me 0) sl sv (ad 0) (bd 0)] ++ (stW ad R τ ++ (stW bd R τ ++ meW me n o rg τ))) := hD.pm (pm4_012 _ _ _ _).symm
  have hP_x := va_left hP
  have hP_s := va_left (va_right hP)
  have hP_t := va_left (va_right (va_right hP))
  have hP_m := va_right (va_right (va_right hP))
  refine tl_some ?_
  refine lv_iload_n hx hb dX9_take_5 rfl (lv_at hl 1 rfl) ?_
  refine rq_V (As := [Value.int (iI t)]) (rest := [Value.ref x]) ⟨hx, hb, hml, hown, hts⟩ (c_X6_takeOff l g τ bd R hI t ⟨by omega, by omega⟩) gX9_take_X6_takeOff cd_X6_takeOff rfl rfl ⟨rfl, rfl⟩ ⟨Nat.le_of_ble_eq_true rfl, Nat.le_of_ble_eq_true rfl⟩ hK hP hD hS (pm4_2 _ _ _ _) 0 rfl rfl rfl rfl hl rfl (Nat.le_of_ble_eq_true rfl) dX9_take_6 ⟨Nat.le_of_ble_eq_true rfl, Nat.le_of_ble_eq_true rfl⟩ (fun v w h => by rw [h.2]; exact f_stx bd ta _ _ _) (fun v w1 H locs hZ hP hD hS => ?_)
  obtain ⟨rfl, rfl⟩ := hZ
  have hP : va_P g vwCl ([xoC x (ta 0) (aj 0) (me 0) sl sv (ad 0) (bd 0)] ++ (stW ad R τ ++ (stW bd ((aTake R t).2) τ ++ meW me n o rg τ))) H := hP.pm (pm4_2 _ _ _ _).symm
  have hD : va_D A ([xoC x (ta 0) (aj 0) (me 0) sl sv (ad 0) (bd 0)] ++ (stW ad R τ ++ (stW bd ((aTake R t).2) τ ++ meW me n o rg τ))) := hD.pm (pm4_2 _ _ _ _).symm
  have hP_x := va_left hP
  have hP_s := va_left (va_right hP)
  have hP_t := va_left (va_right (va_right hP))
  have hP_m := va_right (va_right (va_right hP))
  refine tl_some ?_
  have hra := aTake_r hI t
  refine ru_V (As := [Value.int (iI ((aTake R t).1))]) (rest := []) ⟨hx, hb, hml, hown, hts⟩ (c_X9_finish l hst g τ x sl sv ta aj me ad bd R n o rg hn ho sp hsp ((aTake R t).1) ⟨by omega, by omega⟩) gX9_take_X9_finish cd_X9_finish rfl rfl ⟨rfl, rfl⟩ ⟨Nat.le_of_ble_eq_true rfl, Nat.le_of_ble_eq_true rfl⟩ hK hZT hZU hP hD hS (pm4_031 _ _ _ _) 0 rfl rfl rfl rfl hl rfl (Nat.le_of_ble_eq_true rfl) dX9_take_9 ⟨Nat.le_of_ble_eq_true rfl, Nat.le_of_ble_eq_true rfl⟩ (fun v w h => by rw [h.2.2]; exact f_xms _ _ _ _ _ _ _ _ _ _ _ _ _ _ _ _ _ _ _ _) (fun E w h => by rw [h.1]) (fun E w1 H locs q9 ce9 hZ hP hD hS a1 a2 a3 => ?_) (fun v w1 H locs hZ hP hD hS => ?_)
  · skip
    obtain ⟨rfl, hE⟩ := hZ
    have hP : va_P g vwCl ([xoC x (ta 0) (aj 0) (me 0) sl sv (ad 0) (bd 0)] ++ (stW ad R τ ++ (stW bd ((aTake R t).2) τ ++ meW me n o rg τ))) H := hP.pm (pm4_031 _ _ _ _).symm
    exact u_out ht hlocks a1 a2 a3 hP hS ⟨Nat.le_of_ble_eq_true rfl, Nat.le_of_ble_eq_true rfl⟩ (⟨hE, _, rfl⟩)
  · skip
    obtain ⟨⟨hm2, hm3, hm4⟩, rfl, rfl⟩ := hZ
    have hP : va_P g vwCl ([xoC x (ta 0) (aj 0) (me 0) sl sv (bd 0) sp] ++ (stW ad R τ ++ (stW bd ((aTake R t).2) τ ++ meW me (mN n) (mO n o) (mR rg n o (ad 0)) τ))) H := hP.pm (pm4_031 _ _ _ _).symm
    have hD : va_D A ([xoC x (ta 0) (aj 0) (me 0) sl sv (bd 0) sp] ++ (stW ad R τ ++ (stW bd ((aTake R t).2) τ ++ meW me (mN n) (mO n o) (mR rg n o (ad 0)) τ))) := hD.pm (pm4_031 _ _ _ _).symm
    have hP_x := va_left hP
    have hP_s := va_left (va_right hP)
    have hP_t := va_left (va_right (va_right hP))
    have hP_m := va_right (va_right (va_right hP))
    refine tl_some ?_
    exact u_iret hx hb hr hlocks hP hS ⟨Nat.le_of_ble_eq_true rfl, Nat.le_of_ble_eq_true rfl⟩ (⟨by omega, rfl, rfl⟩) dX9_take_12

theorem cd_X9_set : cd yX9_set 2 := by decide +kernel
set_option maxHeartbeats 1000000 in
set_option maxRecDepth 100000 in
theorem c_X9_set (l : Launch) (hst : l.stackTraces = false) (g : va_G) (τ : Nat → ClassId) (x sl sv : Nat) (ta aj me ad bd : Nat → Nat) (R T : Nat → Nat → Int) (hI : SI R) (n o : Int) (rg : Nat → Option Nat) (hn : 0 ≤ n ∧ n ≤ 14) (ho : 0 ≤ o ∧ o < 14) (sp : Nat) (hsp : rg ((o + n) % 14).toNat = some sp) (a : Int) (ra : -2147483648 ≤ a ∧ a < 2147483648) (x1 : Int) (rx1 : -2147483648 ≤ x1 ∧ x1 < 2147483648)  : uMet l yX9_set wsX9_set { frames := 9, cells := 1, slots := 6, locals := 152 } g τ [Value.ref x, Value.int (iI a), Value.int (iI x1)] ([xoC x (ta 0) (aj 0) (me 0) sl sv (ad 0) (bd 0)] ++ (stW ad R τ ++ (stW bd T τ ++ meW me n o rg τ))) (fun v w => 0 ≤ (aSet R a x1).1 ∧ v = some (Value.int (iI (aSet R a x1).1)) ∧ w = [xoC x (ta 0) (aj 0) (me 0) sl sv (bd 0) sp] ++ (stW ad R τ ++ (stW bd ((aSet R a x1).2) τ ++ meW me (mN n) (mO n o) (mR rg n o (ad 0)) τ))) (fun E w => xEx (aSet R a x1).1 E ∧ ∃ T2, w = [xoC x (ta 0) (aj 0) (me 0) sl sv (ad 0) (bd 0)] ++ (stW ad R τ ++ (stW bd T2 τ ++ meW me n o rg τ))) := by
  refine uMet_of (cc := cX9_set) (maxL := 3) (ret := (some .int)) (lv := [(0, Value.ref x), (1, Value.int (iI a)), (2, Value.int (iI x1))]) (by decide) rfl (Nat.le_of_ble_eq_true rfl) rfl ?_
  intro p e s m below meth c hx hb hr hml hts hown hlocks ht A H hP hD hS hK hZT hZU ls hl
  have hP_x := va_left hP
  have hP_s := va_left (va_right hP)
  have hP_t := va_left (va_right (va_right hP))
  have hP_m := va_right (va_right (va_right hP))
  refine lv_aload_n hx hb dX9_set_0 rfl (lv_at hl 0 rfl) ?_
  refine lv_aload_n hx hb dX9_set_1 rfl (lv_at hl 0 rfl) ?_
  refine rq_V (As := []) (rest := [Value.ref x]) ⟨hx, hb, hml, hown, hts⟩ (c_X9_freshTrial l g τ x sl sv ta aj me ad bd R T) gX9_set_X9_freshTrial cd_X9_freshTrial rfl rfl ⟨rfl, rfl⟩ ⟨Nat.le_of_ble_eq_true rfl, Nat.le_of_ble_eq_true rfl⟩ hK hP hD hS (pm4_012 _ _ _ _) 0 rfl rfl rfl rfl hl rfl (Nat.le_of_ble_eq_true rfl) dX9_set_2 ⟨Nat.le_of_ble_eq_true rfl, Nat.le_of_ble_eq_true rfl⟩ (fun v w h => by rw [h.2]; exact f_xst _ _ _ _ _ _ _ _) (fun v w1 H locs hZ hP hD hS => ?_)
  obtain ⟨rfl, rfl⟩ := hZ
  have hP : va_P g vwCl ([xoC x (ta 0) (aj 0) (me 0) sl sv (ad 0) (bd 0)] ++ (stW ad R τ ++ (stW bd R τ ++ meW me n o rg τ))) H := hP.pm (pm4_012 _ _ _ _).symm
  have hD : va_D A ([xoC x (ta 0) (aj 0) (me 0) sl sv (ad 0) (bd 0)] ++ (stW ad R τ ++ (stW bd R τ ++ meW me n o rg τ))) := hD.pm (pm4_012 _ _ _ _).symm
  have hP_x := va_left hP
  have hP_s := va_left (va_right hP)
  have hP_t := va_left (va_right (va_right hP))
  have hP_m := va_right (va_right (va_right hP))
  refine tl_some ?_
  refine lv_iload_n hx hb dX9_set_5 rfl (lv_at hl 1 rfl) ?_
  refine lv_iload_n hx hb dX9_set_6 rfl (lv_at hl 2 rfl) ?_
  refine rq_V (As := [Value.int (iI a), Value.int (iI x1)]) (rest := [Value.ref x]) ⟨hx, hb, hml, hown, hts⟩ (c_X6_change l g τ bd R hI a ⟨by omega, by omega⟩ x1 ⟨by omega, by omega⟩) gX9_set_X6_change cd_X6_change rfl rfl ⟨rfl, rfl⟩ ⟨Nat.le_of_ble_eq_true rfl, Nat.le_of_ble_eq_true rfl⟩ hK hP hD hS (pm4_2 _ _ _ _) 0 rfl rfl rfl rfl hl rfl (Nat.le_of_ble_eq_true rfl) dX9_set_7 ⟨Nat.le_of_ble_eq_true rfl, Nat.le_of_ble_eq_true rfl⟩ (fun v w h => by rw [h.2]; exact f_stx bd ta _ _ _) (fun v w1 H locs hZ hP hD hS => ?_)
  obtain ⟨rfl, rfl⟩ := hZ
  have hP : va_P g vwCl ([xoC x (ta 0) (aj 0) (me 0) sl sv (ad 0) (bd 0)] ++ (stW ad R τ ++ (stW bd ((aSet R a x1).2) τ ++ meW me n o rg τ))) H := hP.pm (pm4_2 _ _ _ _).symm
  have hD : va_D A ([xoC x (ta 0) (aj 0) (me 0) sl sv (ad 0) (bd 0)] ++ (stW ad R τ ++ (stW bd ((aSet R a x1).2) τ ++ meW me n o rg τ))) := hD.pm (pm4_2 _ _ _ _).symm
  have hP_x := va_left hP
  have hP_s := va_left (va_right hP)
  have hP_t := va_left (va_right (va_right hP))
  have hP_m := va_right (va_right (va_right hP))
  refine tl_some ?_
  have hra := aSet_r hI a x1
  refine ru_V (As := [Value.int (iI ((aSet R a x1).1))]) (rest := []) ⟨hx, hb, hml, hown, hts⟩ (c_X9_finish l hst g τ x sl sv ta aj me ad bd R n o rg hn ho sp hsp ((aSet R a x1).1) ⟨by omega, by omega⟩) gX9_set_X9_finish cd_X9_finish rfl rfl ⟨rfl, rfl⟩ ⟨Nat.le_of_ble_eq_true rfl, Nat.le_of_ble_eq_true rfl⟩ hK hZT hZU hP hD hS (pm4_031 _ _ _ _) 0 rfl rfl rfl rfl hl rfl (Nat.le_of_ble_eq_true rfl) dX9_set_10 ⟨Nat.le_of_ble_eq_true rfl, Nat.le_of_ble_eq_true rfl⟩ (fun v w h => by rw [h.2.2]; exact f_xms _ _ _ _ _ _ _ _ _ _ _ _ _ _ _ _ _ _ _ _) (fun E w h => by rw [h.1]) (fun E w1 H locs q9 ce9 hZ hP hD hS a1 a2 a3 => ?_) (fun v w1 H locs hZ hP hD hS => ?_)
  · skip
    obtain ⟨rfl, hE⟩ := hZ
    have hP : va_P g vwCl ([xoC x (ta 0) (aj 0) (me 0) sl sv (ad 0) (bd 0)] ++ (stW ad R τ ++ (stW bd ((aSet R a x1).2) τ ++ meW me n o rg τ))) H := hP.pm (pm4_031 _ _ _ _).symm
    exact u_out ht hlocks a1 a2 a3 hP hS ⟨Nat.le_of_ble_eq_true rfl, Nat.le_of_ble_eq_true rfl⟩ (⟨hE, _, rfl⟩)
  · skip
    obtain ⟨⟨hm2, hm3, hm4⟩, rfl, rfl⟩ := hZ
    have hP : va_P g vwCl ([xoC x (ta 0) (aj 0) (me 0) sl sv (bd 0) sp] ++ (stW ad R τ ++ (stW bd ((aSet R a x1).2) τ ++ meW me (mN n) (mO n o) (mR rg n o (ad 0)) τ))) H := hP.pm (pm4_031 _ _ _ _).symm
    have hD : va_D A ([xoC x (ta 0) (aj 0) (me 0) sl sv (bd 0) sp] ++ (stW ad R τ ++ (stW bd ((aSet R a x1).2) τ ++ meW me (mN n) (mO n o) (mR rg n o (ad 0)) τ))) := hD.pm (pm4_031 _ _ _ _).symm
    have hP_x := va_left hP
    have hP_s := va_left (va_right hP)
    have hP_t := va_left (va_right (va_right hP))
    have hP_m := va_right (va_right (va_right hP))
    refine tl_some ?_
    exact u_iret hx hb hr hlocks hP hS ⟨Nat.le_of_ble_eq_true rfl, Nat.le_of_ble_eq_true rfl⟩ (⟨by omega, rfl, rfl⟩) dX9_set_13

theorem cd_X9_sort : cd yX9_sort 1 := by decide +kernel
theorem in_X9_sort_X9 : ∀ w ∈ wsX90, w ∈ wsX9_sort := by decide +kernel
set_option maxHeartbeats 1000000 in
set_option maxRecDepth 100000 in
theorem c_X9_sort (l : Launch) (hst : l.stackTraces = false) (g : va_G) (τ : Nat → ClassId) (x sl sv : Nat) (ta aj me ad bd : Nat → Nat) (R T : Nat → Nat → Int) (hI : SI R) (n o : Int) (rg : Nat → Option Nat) (hn : 0 ≤ n ∧ n ≤ 14) (ho : 0 ≤ o ∧ o < 14) (sp : Nat) (hsp : rg ((o + n) % 14).toNat = some sp) (J : Nat → Nat → Int) (hjb : HB J) (hjs : JSp J) (h1 : Int) (rh1 : -2147483648 ≤ h1 ∧ h1 < 2147483648)  : uMet l yX9_sort wsX9_sort { frames := 9, cells := 1, slots := 6, locals := 152 } g τ [Value.ref x, Value.int (iI h1)] ([xoC x (ta 0) (aj 0) (me 0) sl sv (ad 0) (bd 0)] ++ (stW ad R τ ++ (stW bd T τ ++ (meW me n o rg τ ++ juW aj J τ)))) (fun v w => 0 ≤ (aSrt R h1).1 ∧ v = some (Value.int (iI (aSrt R h1).1)) ∧ ∃ J2, HB J2 ∧ JSp J2 ∧ w = [xoC x (ta 0) (aj 0) (me 0) sl sv (bd 0) sp] ++ (stW ad R τ ++ (stW bd ((aSrt R h1).2) τ ++ (meW me (mN n) (mO n o) (mR rg n o (ad 0)) τ ++ juW aj J2 τ)))) (fun E w => xEx (aSrt R h1).1 E ∧ ∃ T2 J2, HB J2 ∧ JSp J2 ∧ w = [xoC x (ta 0) (aj 0) (me 0) sl sv (ad 0) (bd 0)] ++ (stW ad R τ ++ (stW bd T2 τ ++ (meW me n o rg τ ++ juW aj J2 τ)))) := by
  refine uMet_of (cc := cX9_sort) (maxL := 2) (ret := (some .int)) (lv := [(0, Value.ref x), (1, Value.int (iI h1))]) (by decide) rfl (Nat.le_of_ble_eq_true rfl) rfl ?_
  intro p e s m below meth c hx hb hr hml hts hown hlocks ht A H hP hD hS hK hZT hZU ls hl
  have hP_x := va_left hP
  have hP_s := va_left (va_right hP)
  have hP_t := va_left (va_right (va_right hP))
  have hP_m := va_left (va_right (va_right (va_right hP)))
  have hP_j := va_right (va_right (va_right (va_right hP)))
  refine lv_aload_n hx hb dX9_sort_0 rfl (lv_at hl 0 rfl) ?_
  refine lv_aload_n hx hb dX9_sort_1 rfl (lv_at hl 0 rfl) ?_
  refine va_get (D := g) (ci := 9) (v := Value.ref (aj 0)) (C := RX9) (T := TX9) (N := 7) hx hb hts in_X9_sort_X9 hown hK.1 hP_x 0 (rfl) rfl 1 (by decide) (hts _ (List.mem_of_getElem? (i := 1) rfl) : (Cond.fieldLink RX9 19 "CordSeals" "judge" "LCordSeals$Judge;").before _ s = true) (fun _ h9 => h9) rfl dX9_sort_2 ?_
  refine lv_aload_n hx hb dX9_sort_5 rfl (lv_at hl 0 rfl) ?_
  refine rq_V (As := []) (rest := [Value.ref (aj 0), Value.ref x]) ⟨hx, hb, hml, hown, hts⟩ (c_X9_freshTrial l g τ x sl sv ta aj me ad bd R T) gX9_sort_X9_freshTrial cd_X9_freshTrial rfl rfl ⟨rfl, rfl⟩ ⟨Nat.le_of_ble_eq_true rfl, Nat.le_of_ble_eq_true rfl⟩ hK hP hD hS (pm5_012 _ _ _ _ _) 0 rfl rfl rfl rfl hl rfl (Nat.le_of_ble_eq_true rfl) dX9_sort_6 ⟨Nat.le_of_ble_eq_true rfl, Nat.le_of_ble_eq_true rfl⟩ (fun v w h => by rw [h.2]; exact f_xst _ _ _ _ _ _ _ _) (fun v w1 H locs hZ hP hD hS => ?_)
  obtain ⟨rfl, rfl⟩ := hZ
  have hP : va_P g vwCl ([xoC x (ta 0) (aj 0) (me 0) sl sv (ad 0) (bd 0)] ++ (stW ad R τ ++ (stW bd R τ ++ (meW me n o rg τ ++ juW aj J τ)))) H := hP.pm (pm5_012 _ _ _ _ _).symm
  have hD : va_D A ([xoC x (ta 0) (aj 0) (me 0) sl sv (ad 0) (bd 0)] ++ (stW ad R τ ++ (stW bd R τ ++ (meW me n o rg τ ++ juW aj J τ)))) := hD.pm (pm5_012 _ _ _ _ _).symm
  have hP_x := va_left hP
  have hP_s := va_left (va_right hP)
  have hP_t := va_left (va_right (va_right hP))
  have hP_m := va_left (va_right (va_right (va_right hP)))
  have hP_j := va_right (va_right (va_right (va_right hP)))
  refine tl_some ?_
  refine lv_iload_n hx hb dX9_sort_9 rfl (lv_at hl 1 rfl) ?_
  refine rq_V (As := [Value.ref (bd 0), Value.int (iI h1)]) (rest := [Value.ref x]) ⟨hx, hb, hml, hown, hts⟩ (c_X1_sortShelf l g τ bd aj R J hI hjb hjs h1 ⟨by omega, by omega⟩) gX9_sort_X1_sortShelf cd_X1_sortShelf rfl rfl ⟨rfl, rfl⟩ ⟨Nat.le_of_ble_eq_true rfl, Nat.le_of_ble_eq_true rfl⟩ hK hP hD hS (pm5_42 _ _ _ _ _) 0 rfl rfl rfl rfl hl rfl (Nat.le_of_ble_eq_true rfl) dX9_sort_10 ⟨Nat.le_of_ble_eq_true rfl, Nat.le_of_ble_eq_true rfl⟩ (fun v w h => by rw [h.2]; exact f_ju2 aj bd _ _ _ _ _) (fun v w1 H locs hZ hP hD hS => ?_)
  rw [(aSort_eq hI J h1).1, (aSort_eq hI J h1).2] at hZ
  obtain ⟨rfl, rfl⟩ := hZ
  have hP : va_P g vwCl ([xoC x (ta 0) (aj 0) (me 0) sl sv (ad 0) (bd 0)] ++ (stW ad R τ ++ (stW bd ((aSrt R h1).2) τ ++ (meW me n o rg τ ++ juW aj ((aSort R J h1).2.2) τ)))) H := hP.pm (pm5_42 _ _ _ _ _).symm
  have hD : va_D A ([xoC x (ta 0) (aj 0) (me 0) sl sv (ad 0) (bd 0)] ++ (stW ad R τ ++ (stW bd ((aSrt R h1).2) τ ++ (meW me n o rg τ ++ juW aj ((aSort R J h1).2.2) τ)))) := hD.pm (pm5_42 _ _ _ _ _).symm
  have hP_x := va_left hP
  have hP_s := va_left (va_right hP)
  have hP_t := va_left (va_right (va_right hP))
  have hP_m := va_left (va_right (va_right (va_right hP)))
  have hP_j := va_right (va_right (va_right (va_right hP)))
  refine tl_some ?_
  have hra := aSrt_r hI h1
  refine ru_V (As := [Value.int (iI ((aSrt R h1).1))]) (rest := []) ⟨hx, hb, hml, hown, hts⟩ (c_X9_finish l hst g τ x sl sv ta aj me ad bd R n o rg hn ho sp hsp ((aSrt R h1).1) ⟨by omega, by omega⟩) gX9_sort_X9_finish cd_X9_finish rfl rfl ⟨rfl, rfl⟩ ⟨Nat.le_of_ble_eq_true rfl, Nat.le_of_ble_eq_true rfl⟩ hK hZT hZU hP hD hS (pm5_031 _ _ _ _ _) 0 rfl rfl rfl rfl hl rfl (Nat.le_of_ble_eq_true rfl) dX9_sort_13 ⟨Nat.le_of_ble_eq_true rfl, Nat.le_of_ble_eq_true rfl⟩ (fun v w h => by rw [h.2.2]; exact f_xms _ _ _ _ _ _ _ _ _ _ _ _ _ _ _ _ _ _ _ _) (fun E w h => by rw [h.1]) (fun E w1 H locs q9 ce9 hZ hP hD hS a1 a2 a3 => ?_) (fun v w1 H locs hZ hP hD hS => ?_)
  · skip
    obtain ⟨rfl, hE⟩ := hZ
    have hP : va_P g vwCl ([xoC x (ta 0) (aj 0) (me 0) sl sv (ad 0) (bd 0)] ++ (stW ad R τ ++ (stW bd ((aSrt R h1).2) τ ++ (meW me n o rg τ ++ juW aj ((aSort R J h1).2.2) τ)))) H := hP.pm (pm5_031 _ _ _ _ _).symm
    exact u_out ht hlocks a1 a2 a3 hP hS ⟨Nat.le_of_ble_eq_true rfl, Nat.le_of_ble_eq_true rfl⟩ (⟨hE, _, _, (aSort_J hI h1 hjb hjs).1, (aSort_J hI h1 hjb hjs).2, rfl⟩)
  · skip
    obtain ⟨⟨hm2, hm3, hm4⟩, rfl, rfl⟩ := hZ
    have hP : va_P g vwCl ([xoC x (ta 0) (aj 0) (me 0) sl sv (bd 0) sp] ++ (stW ad R τ ++ (stW bd ((aSrt R h1).2) τ ++ (meW me (mN n) (mO n o) (mR rg n o (ad 0)) τ ++ juW aj ((aSort R J h1).2.2) τ)))) H := hP.pm (pm5_031 _ _ _ _ _).symm
    have hD : va_D A ([xoC x (ta 0) (aj 0) (me 0) sl sv (bd 0) sp] ++ (stW ad R τ ++ (stW bd ((aSrt R h1).2) τ ++ (meW me (mN n) (mO n o) (mR rg n o (ad 0)) τ ++ juW aj ((aSort R J h1).2.2) τ)))) := hD.pm (pm5_031 _ _ _ _ _).symm
    have hP_x := va_left hP
    have hP_s := va_left (va_right hP)
    have hP_t := va_left (va_right (va_right hP))
    have hP_m := va_left (va_right (va_right (va_right hP)))
    have hP_j := va_right (va_right (va_right (va_right hP)))
    refine tl_some ?_
    exact u_iret hx hb hr hlocks hP hS ⟨Nat.le_of_ble_eq_true rfl, Nat.le_of_ble_eq_true rfl⟩ (⟨by omega, rfl, _, (aSort_J hI h1 hjb hjs).1, (aSort_J hI h1 hjb hjs).2, rfl⟩) dX9_sort_16

theorem cd_X9_undo : cd yX9_undo 0 := by decide +kernel
theorem in_X9_undo_X2 : ∀ w ∈ wsX20, w ∈ wsX9_undo := by decide +kernel
theorem in_X9_undo_X9 : ∀ w ∈ wsX90, w ∈ wsX9_undo := by decide +kernel
set_option maxHeartbeats 1000000 in
set_option maxRecDepth 100000 in
theorem c_X9_undo (l : Launch) (hst : l.stackTraces = false) (g : va_G) (τ : Nat → ClassId) (x sl sv : Nat) (ta aj me ad bd : Nat → Nat) (R : Nat → Nat → Int) (n o : Int) (rg : Nat → Option Nat) (hn : 0 ≤ n ∧ n ≤ 14) (ho : 0 ≤ o ∧ o < 14) (sp : Nat) (hsp : 0 < n → rg ((o + (n - 1)) % 14).toNat = some sp)  : uMet l yX9_undo wsX9_undo { frames := 7, cells := 1, slots := 6, locals := 110 } g τ [Value.ref x] ([xoC x (ta 0) (aj 0) (me 0) sl sv (ad 0) (bd 0)] ++ (stW ad R τ ++ meW me n o rg τ)) (fun v w => 0 < n ∧ v = some (Value.int (iI (n - 1))) ∧ w = [xoC x (ta 0) (aj 0) (me 0) sl sv sp (bd 0)] ++ (stW ad R τ ++ meW me (n - 1) o (va_up rg ((o + (n - 1)) % 14).toNat (some (ad 0))) τ)) (fun E w => n = 0 ∧ E = "java/lang/IllegalStateException" ∧ w = [xoC x (ta 0) (aj 0) (me 0) sl sv (ad 0) (bd 0)] ++ (stW ad R τ ++ meW me n o rg τ)) := by
  refine uMet_of (cc := cX9_undo) (maxL := 1) (ret := (some .int)) (lv := [(0, Value.ref x)]) (by decide) rfl (Nat.le_of_ble_eq_true rfl) rfl ?_
  intro p e s m below meth c hx hb hr hml hts hown hlocks ht A H hP hD hS hK hZT hZU ls hl
  have hP_x := va_left hP
  have hP_s := va_left (va_right hP)
  have hP_m := va_right (va_right hP)
  refine lv_aload_n hx hb dX9_undo_0 rfl (lv_at hl 0 rfl) ?_
  refine va_get (D := g) (ci := 9) (v := Value.ref (me 0)) (C := RX9) (T := TX9) (N := 7) hx hb hts in_X9_undo_X9 hown hK.1 hP_x 0 (rfl) rfl 2 (by decide) (hts _ (List.mem_of_getElem? (i := 1) rfl) : (Cond.fieldLink RX9 26 "CordSeals" "memory" "LCordSeals$Memory;").before _ s = true) (fun _ h9 => h9) rfl dX9_undo_1 ?_
  refine va_get (D := g) (ci := 2) (v := Value.int (iI n)) (C := RX2) (T := TX2) (N := 3) hx hb hts in_X9_undo_X2 hown hK.1 hP_m 0 (rfl) rfl 0 (by decide) (hts _ (List.mem_of_getElem? (i := 2) rfl) : (Cond.fieldLink RX9 296 "CordSeals$Memory" "count" "I").before _ s = true) (fun _ h9 => h9) rfl dX9_undo_4 ?_
  refine zi_if_le (tgt := 14) hx hb ⟨by omega, by omega⟩ dX9_undo_7 (by decide) (fun c_1 => ?_) (fun c_1 => ?_)
  · have _ := c_1
    refine lv_iconst (v := iI 0) hx hb dX9_undo_14 (by decide) ?_
    refine xr_S (As := [Value.int (iI 0)]) (rest := []) ⟨hx, hb, hml, hown, hts⟩ (x_X9_mustBeFree l hst g τ) gX9_undo_X9_mustBeFree cd_X9_mustBeFree rfl ⟨rfl, rfl⟩ ⟨Nat.le_of_ble_eq_true rfl, Nat.le_of_ble_eq_true rfl⟩ hK hZT hZU hP hD hS [] rfl rfl rfl hl rfl (Nat.le_of_ble_eq_true rfl) dX9_undo_15 ⟨Nat.le_of_ble_eq_true rfl, Nat.le_of_ble_eq_true rfl⟩ (fun w1 h => by rw [h]) (fun w1 H locs q9 ce9 hZ hP hD hS a1 a2 a3 => ?_)
    subst hZ
    have hP : va_P g vwCl ([xoC x (ta 0) (aj 0) (me 0) sl sv (ad 0) (bd 0)] ++ (stW ad R τ ++ meW me n o rg τ)) H := hP
    exact u_out ht hlocks a1 a2 a3 hP hS ⟨Nat.le_of_ble_eq_true rfl, Nat.le_of_ble_eq_true rfl⟩ (⟨by omega, rfl, rfl⟩)
  · have _ := c_1
    refine lv_iconst (v := iI 1) hx hb dX9_undo_10 (by decide) ?_
    refine lv_goto (tgt := 15) hx hb dX9_undo_11 (by decide) ?_
    refine ro_S (As := [Value.int (iI 1)]) (rest := []) (v := none) ⟨hx, hb, hml, hown, hts⟩ (c_X9_mustBeFree l g τ) gX9_undo_X9_mustBeFree cd_X9_mustBeFree rfl ⟨rfl, rfl⟩ ⟨Nat.le_of_ble_eq_true rfl, Nat.le_of_ble_eq_true rfl⟩ hK (fun _ _ h => nomatch h) rfl hl rfl (Nat.le_of_ble_eq_true rfl) dX9_undo_15 ⟨Nat.le_of_ble_eq_true rfl, Nat.le_of_ble_eq_true rfl⟩ ?_
    refine tl_none ?_
    refine lv_aload_n hx hb dX9_undo_18 rfl (lv_at hl 0 rfl) ?_
    refine lv_aload_n hx hb dX9_undo_19 rfl (lv_at hl 0 rfl) ?_
    refine va_get (D := g) (ci := 9) (v := Value.ref (me 0)) (C := RX9) (T := TX9) (N := 7) hx hb hts in_X9_undo_X9 hown hK.1 hP_x 0 (rfl) rfl 2 (by decide) (hts _ (List.mem_of_getElem? (i := 1) rfl) : (Cond.fieldLink RX9 26 "CordSeals" "memory" "LCordSeals$Memory;").before _ s = true) (fun _ h9 => h9) rfl dX9_undo_20 ?_
    refine lv_aload_n hx hb dX9_undo_23 rfl (lv_at hl 0 rfl) ?_
    refine va_get (D := g) (ci := 9) (v := Value.ref (ad 0)) (C := RX9) (T := TX9) (N := 7) hx hb hts in_X9_undo_X9 hown hK.1 hP_x 0 (rfl) rfl 5 (by decide) (hts _ (List.mem_of_getElem? (i := 3) rfl) : (Cond.fieldLink RX9 41 "CordSeals" "state" "LCordSeals$State;").before _ s = true) (fun _ h9 => h9) rfl dX9_undo_24 ?_
    refine rq_V (As := [Value.ref (ad 0)]) (rest := [Value.ref x]) ⟨hx, hb, hml, hown, hts⟩ (c_X2_recall l g τ me n o rg (ad 0) (stV ad) hn ho sp hsp) gX9_undo_X2_recall cd_X2_recall rfl rfl ⟨rfl, rfl⟩ ⟨Nat.le_of_ble_eq_true rfl, Nat.le_of_ble_eq_true rfl⟩ hK hP hD hS (pm_rec _ _ ad R τ) 0 rfl rfl rfl rfl hl rfl (Nat.le_of_ble_eq_true rfl) dX9_undo_27 ⟨Nat.le_of_ble_eq_true rfl, Nat.le_of_ble_eq_true rfl⟩ (fun v w h => by rw [h.2, if_neg (by omega)]; exact f_meh _ _ _ _ _ _ _ _ _ _) (fun v w1 H locs hZ hP hD hS => ?_)
    rw [if_neg (by omega), if_neg (by omega)] at hZ
    obtain ⟨rfl, rfl⟩ := hZ
    have hP : va_P g vwCl ([xoC x (ta 0) (aj 0) (me 0) sl sv (ad 0) (bd 0)] ++ (stW ad R τ ++ meW me (n - 1) o (va_up rg ((o + (n - 1)) % 14).toNat (some (ad 0))) τ)) H := hP.pm (pm_rec _ _ ad R τ).symm
    have hD : va_D A ([xoC x (ta 0) (aj 0) (me 0) sl sv (ad 0) (bd 0)] ++ (stW ad R τ ++ meW me (n - 1) o (va_up rg ((o + (n - 1)) % 14).toNat (some (ad 0))) τ)) := hD.pm (pm_rec _ _ ad R τ).symm
    have hP_x := va_left hP
    have hP_s := va_left (va_right hP)
    have hP_m := va_right (va_right hP)
    refine tl_some ?_
    refine va_put (D := g) (ci := 9) (v := Value.ref sp) (ty := .object "CordSeals$State") (C := RX9) (T := TX9) (N := 7) hx hb hts in_X9_undo_X9 tyX9 tyX9_ok nmX9 hown hK.1 hP hD hS 0 (rfl) rfl 5 (by decide) (hts _ (List.mem_of_getElem? (i := 3) rfl) : (Cond.fieldLink RX9 41 "CordSeals" "state" "LCordSeals$State;").before _ s = true) (fun _ h9 => h9) rfl (by decide +kernel) rfl rfl (Nat.le_of_ble_eq_true rfl) dX9_undo_30 (fun H locs hP hD hS => ?_)
    have hP : va_P g vwCl ([xoC x (ta 0) (aj 0) (me 0) sl sv sp (bd 0)] ++ (stW ad R τ ++ meW me (n - 1) o (va_up rg ((o + (n - 1)) % 14).toNat (some (ad 0))) τ)) H := hP
    have hD : va_D A ([xoC x (ta 0) (aj 0) (me 0) sl sv sp (bd 0)] ++ (stW ad R τ ++ meW me (n - 1) o (va_up rg ((o + (n - 1)) % 14).toNat (some (ad 0))) τ)) := hD
    have hP_x := va_left hP
    have hP_s := va_left (va_right hP)
    have hP_m := va_right (va_right hP)
    refine lv_aload_n hx hb dX9_undo_33 rfl (lv_at hl 0 rfl) ?_
    refine va_get (D := g) (ci := 9) (v := Value.ref (me 0)) (C := RX9) (T := TX9) (N := 7) hx hb hts in_X9_undo_X9 hown hK.1 hP_x 0 (rfl) rfl 2 (by decide) (hts _ (List.mem_of_getElem? (i := 1) rfl) : (Cond.fieldLink RX9 26 "CordSeals" "memory" "LCordSeals$Memory;").before _ s = true) (fun _ h9 => h9) rfl dX9_undo_34 ?_
    refine va_get (D := g) (ci := 2) (v := Value.int (iI (n - 1))) (C := RX2) (T := TX2) (N := 3) hx hb hts in_X9_undo_X2 hown hK.1 hP_m 0 (rfl) rfl 0 (by decide) (hts _ (List.mem_of_getElem? (i := 2) rfl) : (Cond.fieldLink RX9 296 "CordSeals$Memory" "count" "I").before _ s = true) (fun _ h9 => h9) rfl dX9_undo_37 ?_
    exact u_iret hx hb hr hlocks hP hS ⟨Nat.le_of_ble_eq_true rfl, Nat.le_of_ble_eq_true rfl⟩ (⟨by omega, rfl, rfl⟩) dX9_undo_40
