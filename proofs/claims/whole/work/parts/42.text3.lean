theorem tKind_r {X S : Nat → Int} (h : SB S) : 0 ≤ (if X 2 < X 0 then tAt X S else 32) ∧ (if X 2 < X 0 then tAt X S else 32) ≤ 255 := by
  have := h (X 2).toNat
  unfold tAt
  split <;> omega
def tLoop (X S : Nat → Int) : Nat → Nat → Int
  | 0 => updZ (updZ X 2 0) 3 0
  | i + 1 => (tNext (tLoop X S i) S).2
theorem TI_0 {X : Nat → Int} (h : TL X) : TI (updZ (updZ X 2 0) 3 0) := ⟨by show (0 : Int) ≤ 0; decide, by show 0 ≤ X 0; exact h.1, h.2.1, by show (0 : Int) ≤ 0; decide, by show (0 : Int) ≤ 1; decide⟩
theorem tLoop_ok {X S : Nat → Int} (h : TL X) : ∀ i, TI (tLoop X S i)
  | 0 => TI_0 h
  | i + 1 => tNext_ok (tLoop_ok h i)
def tCnt (X S : Nat → Int) : Nat := fst (fun j => !(tNext (tLoop X S j) S).1) 120
def tAll (X S : Nat → Int) : Nat → Int := if tCnt X S < 120 then (tNext (tLoop X S (tCnt X S)) S).2 else tLoop X S 120
def tErr (X S : Nat → Int) : Int := if (tAll X S) 3 = 0 then -1 else (tAll X S) 2
theorem tAll_ok {X S : Nat → Int} (h : TL X) : TI (tAll X S) := by
  unfold tAll
  split
  · exact tNext_ok (tLoop_ok h _)
  · exact tLoop_ok h _
def tAdd (X S : Nat → Int) (z : Int) : Int × (Nat → Int) × (Nat → Int) := if X 0 < 120 then (X 0 + 1, updZ X 0 (X 0 + 1), updZ S (X 0).toNat z) else (X 0, X, S)

theorem cd_X7_readEntry : cd yX7_readEntry 0 := by decide +kernel
theorem in_X7_readEntry_X7 : ∀ w ∈ wsX70, w ∈ wsX7_readEntry := by decide +kernel
set_option maxHeartbeats 1000000 in
set_option maxRecDepth 100000 in
theorem c_X7_readEntry (l : Launch) (g : va_G) (τ : Nat → ClassId) (ta : Nat → Nat) (X S : Nat → Int) (hS2 : SB S) (hT : TI X)  : Met l yX7_readEntry wsX7_readEntry { frames := 4, cells := 0, slots := 0, locals := 86 } (va_Pc [Value.ref (ta 0)] (rwW g τ (txW ta X S τ))) (rwQ g (fun v w => v = none ∧ w = txW ta (tEntry X S) S τ) (inW (txW ta X S τ))) 0 0 (inW (txW ta X S τ)) := by
  refine rwMet (cc := cX7_readEntry) (maxL := 1) (ret := none) (lv := [(0, Value.ref (ta 0))]) (by decide) rfl (Nat.le_of_ble_eq_true rfl) rfl ?_
  intro p e s m below meth c hx hb hr hml hts hown hlocks A H hP hD hS hK ls hl
  refine lv_aload_n hx hb dX7_readEntry_0 rfl (lv_at hl 0 rfl) ?_
  refine jn (F0 m 26 ls (Value.int (iI (if X 2 < X 0 then tAt X S else 32)) :: Value.ref (ta 0) :: [])) ?_ (fun K => ?_)
  · skip
    refine va_put (D := g) (ci := 7) (v := Value.int (iI (if X 2 < X 0 then tAt X S else 32))) (ty := .int) (C := RX7) (T := TX7) (N := 12) hx hb hts in_X7_readEntry_X7 tyX7 tyX7_ok nmX7 hown hK.1 hP hD hS 0 (rfl) rfl 4 (by decide) (hts _ (List.mem_of_getElem? (i := 4) rfl) : (Cond.fieldLink RX7 40 "CordSeals$Text" "kind" "I").before _ s = true) (fun _ h9 => h9) rfl (by decide +kernel) rfl rfl (Nat.le_of_ble_eq_true rfl) dX7_readEntry_26 (fun H locs hP hD hS => ?_)
    have hP : va_P g vwCl (txW ta (updZ X 4 (if X 2 < X 0 then tAt X S else 32)) S τ) H := hP
    have hD : va_D A (txW ta (updZ X 4 (if X 2 < X 0 then tAt X S else 32)) S τ) := hD
    have ht_1 : TI (updZ X 4 (if X 2 < X 0 then tAt X S else 32)) := TI_u hT (by omega)
    have hkr := tKind_r (X := X) hS2
    refine lv_aload_n hx hb dX7_readEntry_29 rfl (lv_at hl 0 rfl) ?_
    refine va_get (D := g) (ci := 7) (v := Value.int (iI (if X 2 < X 0 then tAt X S else 32))) (C := RX7) (T := TX7) (N := 12) hx hb hts in_X7_readEntry_X7 hown hK.1 hP 0 (rfl) rfl 4 (by decide) (hts _ (List.mem_of_getElem? (i := 4) rfl) : (Cond.fieldLink RX7 40 "CordSeals$Text" "kind" "I").before _ s = true) (fun _ h9 => h9) rfl dX7_readEntry_30 ?_
    by_cases k_2_98 : (if X 2 < X 0 then tAt X S else 32) = 98
    · refine zi_look (tgt := 113) (x := if X 2 < X 0 then tAt X S else 32) k_2_98 hx hb ⟨by decide, by decide⟩ (v := 98) dX7_readEntry_33 (by decide) (off := 80) (by decide +kernel) (by decide) ?_
      have hlt := tKind_l (X := X) (S := S) (by show ¬ (if X 2 < X 0 then tAt X S else 32) = 32; omega)
      refine lv_aload_n hx hb dX7_readEntry_113 rfl (lv_at hl 0 rfl) ?_
      refine rw_V (As := []) (rest := []) ⟨hx, hb, hml, hown, hts⟩ (c_X7_readSeal l g τ ta (updZ X 4 (if X 2 < X 0 then tAt X S else 32)) S hS2 ht_1 hlt) gX7_readEntry_X7_readSeal cd_X7_readSeal rfl rfl ⟨rfl, rfl⟩ ⟨Nat.le_of_ble_eq_true rfl, Nat.le_of_ble_eq_true rfl⟩ hK hP hD hS [0, 1] (rfl) (by decide) 0 rfl rfl rfl rfl hl rfl (Nat.le_of_ble_eq_true rfl) dX7_readEntry_114 ⟨Nat.le_of_ble_eq_true rfl, Nat.le_of_ble_eq_true rfl⟩ (fun v w h => by rw [h.2]; exact f_tx _ _ _ _ _) (fun v w1 H locs hZ hP hD hS => ?_)
      obtain ⟨rfl, rfl⟩ := hZ
      rw [b_tx] at hP hD
      generalize hqd_3 : tSeal (updZ X 4 (if X 2 < X 0 then tAt X S else 32)) S = d_3 at hP hD ⊢
      have htd_3 : TI (d_3) := hqd_3 ▸ tSeal_ok ht_1 hlt
      refine tl_none ?_
      refine lv_goto (tgt := 132) hx hb dX7_readEntry_117 (by decide) ?_
      exact rw_vret hx hb hr hlocks hP hS (⟨rfl, by subst hqd_3; rw [show tEntry X S = tSeal (tKind X S) S from by unfold tEntry; rw [if_neg (by show ¬ (if X 2 < X 0 then tAt X S else 32) = 114; omega), if_neg (by show ¬ (if X 2 < X 0 then tAt X S else 32) = 100; omega), if_neg (by show ¬ (if X 2 < X 0 then tAt X S else 32) = 107; omega), if_pos (by show (if X 2 < X 0 then tAt X S else 32) = 119 ∨ (if X 2 < X 0 then tAt X S else 32) = 98; omega)]]; rfl⟩) dX7_readEntry_132
    by_cases k_2_100 : (if X 2 < X 0 then tAt X S else 32) = 100
    · refine zi_look (tgt := 99) (x := if X 2 < X 0 then tAt X S else 32) k_2_100 hx hb ⟨by decide, by decide⟩ (v := 100) dX7_readEntry_33 (by decide) (off := 66) (by decide +kernel) (by decide) ?_
      have hlt := tKind_l (X := X) (S := S) (by show ¬ (if X 2 < X 0 then tAt X S else 32) = 32; omega)
      refine lv_aload_n hx hb dX7_readEntry_99 rfl (lv_at hl 0 rfl) ?_
      refine rw_V (As := []) (rest := []) ⟨hx, hb, hml, hown, hts⟩ (c_X7_readDie l g τ ta (updZ X 4 (if X 2 < X 0 then tAt X S else 32)) S hS2 ht_1 hlt) gX7_readEntry_X7_readDie cd_X7_readDie rfl rfl ⟨rfl, rfl⟩ ⟨Nat.le_of_ble_eq_true rfl, Nat.le_of_ble_eq_true rfl⟩ hK hP hD hS [0, 1] (rfl) (by decide) 0 rfl rfl rfl rfl hl rfl (Nat.le_of_ble_eq_true rfl) dX7_readEntry_100 ⟨Nat.le_of_ble_eq_true rfl, Nat.le_of_ble_eq_true rfl⟩ (fun v w h => by rw [h.2]; exact f_tx _ _ _ _ _) (fun v w1 H locs hZ hP hD hS => ?_)
      obtain ⟨rfl, rfl⟩ := hZ
      rw [b_tx] at hP hD
      generalize hqd_4 : tDie (updZ X 4 (if X 2 < X 0 then tAt X S else 32)) S = d_4 at hP hD ⊢
      have htd_4 : TI (d_4) := hqd_4 ▸ tDie_ok ht_1 hlt
      refine tl_none ?_
      refine lv_goto (tgt := 132) hx hb dX7_readEntry_103 (by decide) ?_
      exact rw_vret hx hb hr hlocks hP hS (⟨rfl, by subst hqd_4; rw [show tEntry X S = tDie (tKind X S) S from by unfold tEntry; rw [if_neg (by show ¬ (if X 2 < X 0 then tAt X S else 32) = 114; omega), if_pos (by show (if X 2 < X 0 then tAt X S else 32) = 100; omega)]]; rfl⟩) dX7_readEntry_132
    by_cases k_2_104 : (if X 2 < X 0 then tAt X S else 32) = 104
    · refine zi_look (tgt := 120) (x := if X 2 < X 0 then tAt X S else 32) k_2_104 hx hb ⟨by decide, by decide⟩ (v := 104) dX7_readEntry_33 (by decide) (off := 87) (by decide +kernel) (by decide) ?_
      have hlt := tKind_l (X := X) (S := S) (by show ¬ (if X 2 < X 0 then tAt X S else 32) = 32; omega)
      refine lv_aload_n hx hb dX7_readEntry_120 rfl (lv_at hl 0 rfl) ?_
      refine rw_V (As := []) (rest := []) ⟨hx, hb, hml, hown, hts⟩ (c_X7_readHanging l g τ ta (updZ X 4 (if X 2 < X 0 then tAt X S else 32)) S hS2 ht_1 hlt) gX7_readEntry_X7_readHanging cd_X7_readHanging rfl rfl ⟨rfl, rfl⟩ ⟨Nat.le_of_ble_eq_true rfl, Nat.le_of_ble_eq_true rfl⟩ hK hP hD hS [0, 1] (rfl) (by decide) 0 rfl rfl rfl rfl hl rfl (Nat.le_of_ble_eq_true rfl) dX7_readEntry_121 ⟨Nat.le_of_ble_eq_true rfl, Nat.le_of_ble_eq_true rfl⟩ (fun v w h => by rw [h.2]; exact f_tx _ _ _ _ _) (fun v w1 H locs hZ hP hD hS => ?_)
      obtain ⟨rfl, rfl⟩ := hZ
      rw [b_tx] at hP hD
      generalize hqd_5 : tHang (updZ X 4 (if X 2 < X 0 then tAt X S else 32)) S = d_5 at hP hD ⊢
      have htd_5 : TI (d_5) := hqd_5 ▸ tHang_ok ht_1 hlt
      refine tl_none ?_
      refine lv_goto (tgt := 132) hx hb dX7_readEntry_124 (by decide) ?_
      exact rw_vret hx hb hr hlocks hP hS (⟨rfl, by subst hqd_5; rw [show tEntry X S = tHang (tKind X S) S from by unfold tEntry; rw [if_neg (by show ¬ (if X 2 < X 0 then tAt X S else 32) = 114; omega), if_neg (by show ¬ (if X 2 < X 0 then tAt X S else 32) = 100; omega), if_neg (by show ¬ (if X 2 < X 0 then tAt X S else 32) = 107; omega), if_neg (by show ¬ ((if X 2 < X 0 then tAt X S else 32) = 119 ∨ (if X 2 < X 0 then tAt X S else 32) = 98); omega), if_pos (by show (if X 2 < X 0 then tAt X S else 32) = 104; omega)]]; rfl⟩) dX7_readEntry_132
    by_cases k_2_107 : (if X 2 < X 0 then tAt X S else 32) = 107
    · refine zi_look (tgt := 106) (x := if X 2 < X 0 then tAt X S else 32) k_2_107 hx hb ⟨by decide, by decide⟩ (v := 107) dX7_readEntry_33 (by decide) (off := 73) (by decide +kernel) (by decide) ?_
      have hlt := tKind_l (X := X) (S := S) (by show ¬ (if X 2 < X 0 then tAt X S else 32) = 32; omega)
      refine lv_aload_n hx hb dX7_readEntry_106 rfl (lv_at hl 0 rfl) ?_
      refine rw_V (As := []) (rest := []) ⟨hx, hb, hml, hown, hts⟩ (c_X7_readCrack l g τ ta (updZ X 4 (if X 2 < X 0 then tAt X S else 32)) S hS2 ht_1 hlt) gX7_readEntry_X7_readCrack cd_X7_readCrack rfl rfl ⟨rfl, rfl⟩ ⟨Nat.le_of_ble_eq_true rfl, Nat.le_of_ble_eq_true rfl⟩ hK hP hD hS [0, 1] (rfl) (by decide) 0 rfl rfl rfl rfl hl rfl (Nat.le_of_ble_eq_true rfl) dX7_readEntry_107 ⟨Nat.le_of_ble_eq_true rfl, Nat.le_of_ble_eq_true rfl⟩ (fun v w h => by rw [h.2]; exact f_tx _ _ _ _ _) (fun v w1 H locs hZ hP hD hS => ?_)
      obtain ⟨rfl, rfl⟩ := hZ
      rw [b_tx] at hP hD
      generalize hqd_6 : tCrack (updZ X 4 (if X 2 < X 0 then tAt X S else 32)) S = d_6 at hP hD ⊢
      have htd_6 : TI (d_6) := hqd_6 ▸ tCrack_ok ht_1 hlt
      refine tl_none ?_
      refine lv_goto (tgt := 132) hx hb dX7_readEntry_110 (by decide) ?_
      exact rw_vret hx hb hr hlocks hP hS (⟨rfl, by subst hqd_6; rw [show tEntry X S = tCrack (tKind X S) S from by unfold tEntry; rw [if_neg (by show ¬ (if X 2 < X 0 then tAt X S else 32) = 114; omega), if_neg (by show ¬ (if X 2 < X 0 then tAt X S else 32) = 100; omega), if_pos (by show (if X 2 < X 0 then tAt X S else 32) = 107; omega)]]; rfl⟩) dX7_readEntry_132
    by_cases k_2_114 : (if X 2 < X 0 then tAt X S else 32) = 114
    · refine zi_look (tgt := 92) (x := if X 2 < X 0 then tAt X S else 32) k_2_114 hx hb ⟨by decide, by decide⟩ (v := 114) dX7_readEntry_33 (by decide) (off := 59) (by decide +kernel) (by decide) ?_
      have hlt := tKind_l (X := X) (S := S) (by show ¬ (if X 2 < X 0 then tAt X S else 32) = 32; omega)
      refine lv_aload_n hx hb dX7_readEntry_92 rfl (lv_at hl 0 rfl) ?_
      refine rw_V (As := []) (rest := []) ⟨hx, hb, hml, hown, hts⟩ (c_X7_readReign l g τ ta (updZ X 4 (if X 2 < X 0 then tAt X S else 32)) S hS2 ht_1 hlt) gX7_readEntry_X7_readReign cd_X7_readReign rfl rfl ⟨rfl, rfl⟩ ⟨Nat.le_of_ble_eq_true rfl, Nat.le_of_ble_eq_true rfl⟩ hK hP hD hS [0, 1] (rfl) (by decide) 0 rfl rfl rfl rfl hl rfl (Nat.le_of_ble_eq_true rfl) dX7_readEntry_93 ⟨Nat.le_of_ble_eq_true rfl, Nat.le_of_ble_eq_true rfl⟩ (fun v w h => by rw [h.2]; exact f_tx _ _ _ _ _) (fun v w1 H locs hZ hP hD hS => ?_)
      obtain ⟨rfl, rfl⟩ := hZ
      rw [b_tx] at hP hD
      generalize hqd_7 : tReign (updZ X 4 (if X 2 < X 0 then tAt X S else 32)) S = d_7 at hP hD ⊢
      have htd_7 : TI (d_7) := hqd_7 ▸ tReign_ok ht_1 hlt
      refine tl_none ?_
      refine lv_goto (tgt := 132) hx hb dX7_readEntry_96 (by decide) ?_
      exact rw_vret hx hb hr hlocks hP hS (⟨rfl, by subst hqd_7; rw [show tEntry X S = tReign (tKind X S) S from by unfold tEntry; rw [if_pos (by show (if X 2 < X 0 then tAt X S else 32) = 114; omega)]]; rfl⟩) dX7_readEntry_132
    by_cases k_2_119 : (if X 2 < X 0 then tAt X S else 32) = 119
    · refine zi_look (tgt := 113) (x := if X 2 < X 0 then tAt X S else 32) k_2_119 hx hb ⟨by decide, by decide⟩ (v := 119) dX7_readEntry_33 (by decide) (off := 80) (by decide +kernel) (by decide) ?_
      have hlt := tKind_l (X := X) (S := S) (by show ¬ (if X 2 < X 0 then tAt X S else 32) = 32; omega)
      refine lv_aload_n hx hb dX7_readEntry_113 rfl (lv_at hl 0 rfl) ?_
      refine rw_V (As := []) (rest := []) ⟨hx, hb, hml, hown, hts⟩ (c_X7_readSeal l g τ ta (updZ X 4 (if X 2 < X 0 then tAt X S else 32)) S hS2 ht_1 hlt) gX7_readEntry_X7_readSeal cd_X7_readSeal rfl rfl ⟨rfl, rfl⟩ ⟨Nat.le_of_ble_eq_true rfl, Nat.le_of_ble_eq_true rfl⟩ hK hP hD hS [0, 1] (rfl) (by decide) 0 rfl rfl rfl rfl hl rfl (Nat.le_of_ble_eq_true rfl) dX7_readEntry_114 ⟨Nat.le_of_ble_eq_true rfl, Nat.le_of_ble_eq_true rfl⟩ (fun v w h => by rw [h.2]; exact f_tx _ _ _ _ _) (fun v w1 H locs hZ hP hD hS => ?_)
      obtain ⟨rfl, rfl⟩ := hZ
      rw [b_tx] at hP hD
      generalize hqd_8 : tSeal (updZ X 4 (if X 2 < X 0 then tAt X S else 32)) S = d_8 at hP hD ⊢
      have htd_8 : TI (d_8) := hqd_8 ▸ tSeal_ok ht_1 hlt
      refine tl_none ?_
      refine lv_goto (tgt := 132) hx hb dX7_readEntry_117 (by decide) ?_
      exact rw_vret hx hb hr hlocks hP hS (⟨rfl, by subst hqd_8; rw [show tEntry X S = tSeal (tKind X S) S from by unfold tEntry; rw [if_neg (by show ¬ (if X 2 < X 0 then tAt X S else 32) = 114; omega), if_neg (by show ¬ (if X 2 < X 0 then tAt X S else 32) = 100; omega), if_neg (by show ¬ (if X 2 < X 0 then tAt X S else 32) = 107; omega), if_pos (by show (if X 2 < X 0 then tAt X S else 32) = 119 ∨ (if X 2 < X 0 then tAt X S else 32) = 98; omega)]]; rfl⟩) dX7_readEntry_132
    refine zi_lookD (x := if X 2 < X 0 then tAt X S else 32) (tgt := 127) ⟨by omega, by omega⟩ hx hb dX7_readEntry_33 (by decide) (by simp only [Op.lookupswitch.offset_cons, if_neg (fun z : (98 : Int) = (if X 2 < X 0 then tAt X S else 32) => k_2_98 z.symm), if_neg (fun z : (100 : Int) = (if X 2 < X 0 then tAt X S else 32) => k_2_100 z.symm), if_neg (fun z : (104 : Int) = (if X 2 < X 0 then tAt X S else 32) => k_2_104 z.symm), if_neg (fun z : (107 : Int) = (if X 2 < X 0 then tAt X S else 32) => k_2_107 z.symm), if_neg (fun z : (114 : Int) = (if X 2 < X 0 then tAt X S else 32) => k_2_114 z.symm), if_neg (fun z : (119 : Int) = (if X 2 < X 0 then tAt X S else 32) => k_2_119 z.symm), Op.lookupswitch.offset_nil]) (by decide) ?_
    refine lv_aload_n hx hb dX7_readEntry_127 rfl (lv_at hl 0 rfl) ?_
    refine lv_iconst (v := iI 1) hx hb dX7_readEntry_128 (by decide) ?_
    refine va_put (D := g) (ci := 7) (v := Value.int (iI 1)) (ty := .boolean) (C := RX7) (T := TX7) (N := 12) hx hb hts in_X7_readEntry_X7 tyX7 tyX7_ok nmX7 hown hK.1 hP hD hS 0 (rfl) rfl 3 (by decide) (hts _ (List.mem_of_getElem? (i := 5) rfl) : (Cond.fieldLink RX7 26 "CordSeals$Text" "failed" "Z").before _ s = true) (fun _ h9 => h9) rfl (by decide +kernel) (by first | rfl | decide | exact nar_b2 _) (by first | rfl | decide | exact fit_b2 _) (Nat.le_of_ble_eq_true rfl) dX7_readEntry_129 (fun H locs hP hD hS => ?_)
    have hP : va_P g vwCl (txW ta (updZ (updZ X 4 (if X 2 < X 0 then tAt X S else 32)) 3 1) S τ) H := hP
    have hD : va_D A (txW ta (updZ (updZ X 4 (if X 2 < X 0 then tAt X S else 32)) 3 1) S τ) := hD
    have ht_9 : TI (updZ (updZ X 4 (if X 2 < X 0 then tAt X S else 32)) 3 1) := TI_f ht_1 (by first | exact ⟨by omega, by omega⟩)
    exact rw_vret hx hb hr hlocks hP hS (⟨rfl, by rw [show tEntry X S = updZ (tKind X S) 3 1 from by unfold tEntry; rw [if_neg (by show ¬ (if X 2 < X 0 then tAt X S else 32) = 114; omega), if_neg (by show ¬ (if X 2 < X 0 then tAt X S else 32) = 100; omega), if_neg (by show ¬ (if X 2 < X 0 then tAt X S else 32) = 107; omega), if_neg (by show ¬ ((if X 2 < X 0 then tAt X S else 32) = 119 ∨ (if X 2 < X 0 then tAt X S else 32) = 98); omega), if_neg (by show ¬ (if X 2 < X 0 then tAt X S else 32) = 104; omega)]]; rfl⟩) dX7_readEntry_132
  · skip
    refine lv_aload_n hx hb dX7_readEntry_1 rfl (lv_at hl 0 rfl) ?_
    refine va_get (D := g) (ci := 7) (v := Value.int (iI (X 2))) (C := RX7) (T := TX7) (N := 12) hx hb hts in_X7_readEntry_X7 hown hK.1 hP 0 (rfl) rfl 2 (by decide) (hts _ (List.mem_of_getElem? (i := 1) rfl) : (Cond.fieldLink RX7 30 "CordSeals$Text" "at" "I").before _ s = true) (fun _ h9 => h9) rfl dX7_readEntry_2 ?_
    refine lv_aload_n hx hb dX7_readEntry_5 rfl (lv_at hl 0 rfl) ?_
    refine va_get (D := g) (ci := 7) (v := Value.int (iI (X 0))) (C := RX7) (T := TX7) (N := 12) hx hb hts in_X7_readEntry_X7 hown hK.1 hP 0 (rfl) rfl 0 (by decide) (hts _ (List.mem_of_getElem? (i := 2) rfl) : (Cond.fieldLink RX7 15 "CordSeals$Text" "length" "I").before _ s = true) (fun _ h9 => h9) rfl dX7_readEntry_6 ?_
    refine zi_icmp_ge (tgt := 24) hx hb ⟨by omega, by omega⟩ ⟨by omega, by omega⟩ dX7_readEntry_9 (by decide) (fun c_10 => ?_) (fun c_10 => ?_)
    · have _ := c_10
      refine lv_bipush (v := iI 32) hx hb dX7_readEntry_24 (by decide) ?_
      exact cv_i (congrArg iI (Eq.symm (show (if X 2 < X 0 then tAt X S else 32) = 32 from by first | (rw [if_pos (by omega)]; rfl) | (rw [if_neg (by omega)])))) K
    · have _ := c_10
      have hsb := hS2 (X 2).toNat
      refine lv_aload_n hx hb dX7_readEntry_12 rfl (lv_at hl 0 rfl) ?_
      refine va_get (D := g) (ci := 7) (v := Value.ref (ta 1)) (C := RX7) (T := TX7) (N := 12) hx hb hts in_X7_readEntry_X7 hown hK.1 hP 0 (rfl) rfl 1 (by decide) (hts _ (List.mem_of_getElem? (i := 3) rfl) : (Cond.fieldLink RX7 9 "CordSeals$Text" "signs" "[C").before _ s = true) (fun _ h9 => h9) rfl dX7_readEntry_13 ?_
      refine lv_aload_n hx hb dX7_readEntry_16 rfl (lv_at hl 0 rfl) ?_
      refine va_get (D := g) (ci := 7) (v := Value.int (iI (X 2))) (C := RX7) (T := TX7) (N := 12) hx hb hts in_X7_readEntry_X7 hown hK.1 hP 0 (rfl) rfl 2 (by decide) (hts _ (List.mem_of_getElem? (i := 1) rfl) : (Cond.fieldLink RX7 30 "CordSeals$Text" "at" "I").before _ s = true) (fun _ h9 => h9) rfl dX7_readEntry_17 ?_
      refine zc_ald hx hb hK hP 1 (f := S) (rfl) ((X 2).toNat) (by omega) (by omega) (by decide) dX7_readEntry_20 ?_
      refine lv_goto (tgt := 26) hx hb dX7_readEntry_21 (by decide) ?_
      exact cv_i (congrArg iI (Eq.symm (show (if X 2 < X 0 then tAt X S else 32) = (S ((X 2).toNat)) from by first | (rw [if_pos (by omega)]; rfl) | (rw [if_neg (by omega)])))) K

theorem cd_X7_readNext : cd yX7_readNext 0 := by decide +kernel
theorem in_X7_readNext_X7 : ∀ w ∈ wsX70, w ∈ wsX7_readNext := by decide +kernel
set_option maxHeartbeats 1000000 in
set_option maxRecDepth 100000 in
theorem c_X7_readNext (l : Launch) (g : va_G) (τ : Nat → ClassId) (ta : Nat → Nat) (X S : Nat → Int) (hS2 : SB S) (hT : TI X)  : Met l yX7_readNext wsX7_readNext { frames := 5, cells := 0, slots := 0, locals := 106 } (va_Pc [Value.ref (ta 0)] (rwW g τ (txW ta X S τ))) (rwQ g (fun v w => v = some (Value.int (iI (zB (tNext X S).1))) ∧ w = txW ta (tNext X S).2 S τ) (inW (txW ta X S τ))) 0 0 (inW (txW ta X S τ)) := by
  refine rwMet (cc := cX7_readNext) (maxL := 1) (ret := (some .boolean)) (lv := [(0, Value.ref (ta 0))]) (by decide) rfl (Nat.le_of_ble_eq_true rfl) rfl ?_
  intro p e s m below meth c hx hb hr hml hts hown hlocks A H hP hD hS hK ls hl
  refine lv_aload_n hx hb dX7_readNext_0 rfl (lv_at hl 0 rfl) ?_
  refine va_get (D := g) (ci := 7) (v := Value.int (iI (X 2))) (C := RX7) (T := TX7) (N := 12) hx hb hts in_X7_readNext_X7 hown hK.1 hP 0 (rfl) rfl 2 (by decide) (hts _ (List.mem_of_getElem? (i := 1) rfl) : (Cond.fieldLink RX7 30 "CordSeals$Text" "at" "I").before _ s = true) (fun _ h9 => h9) rfl dX7_readNext_1 ?_
  refine zi_if_le (tgt := 20) hx hb ⟨by omega, by omega⟩ dX7_readNext_4 (by decide) (fun c_1 => ?_) (fun c_1 => ?_)
  · have _ := c_1
    refine lv_aload_n hx hb dX7_readNext_20 rfl (lv_at hl 0 rfl) ?_
    refine va_get (D := g) (ci := 7) (v := Value.int (iI (X 2))) (C := RX7) (T := TX7) (N := 12) hx hb hts in_X7_readNext_X7 hown hK.1 hP 0 (rfl) rfl 2 (by decide) (hts _ (List.mem_of_getElem? (i := 1) rfl) : (Cond.fieldLink RX7 30 "CordSeals$Text" "at" "I").before _ s = true) (fun _ h9 => h9) rfl dX7_readNext_21 ?_
    refine zi_if_le (tgt := 33) hx hb ⟨by omega, by omega⟩ dX7_readNext_24 (by decide) (fun c_2 => ?_) (fun c_2 => ?_)
    · have _ := c_2
      have hse : tSemi X S = X := by unfold tSemi; first | exact if_neg (by omega) | (rw [if_pos (by omega)]; assumption)
      refine lv_aload_n hx hb dX7_readNext_33 rfl (lv_at hl 0 rfl) ?_
      refine va_get (D := g) (ci := 7) (v := Value.int (iI (X 3))) (C := RX7) (T := TX7) (N := 12) hx hb hts in_X7_readNext_X7 hown hK.1 hP 0 (rfl) rfl 3 (by decide) (hts _ (List.mem_of_getElem? (i := 3) rfl) : (Cond.fieldLink RX7 26 "CordSeals$Text" "failed" "Z").before _ s = true) (fun _ h9 => h9) rfl dX7_readNext_34 ?_
      refine zi_if_ne (tgt := 44) hx hb ⟨by omega, by omega⟩ dX7_readNext_37 (by decide) (fun c_3 => ?_) (fun c_3 => ?_)
      · have _ := c_3
        refine lv_aload_n hx hb dX7_readNext_44 rfl (lv_at hl 0 rfl) ?_
        refine va_get (D := g) (ci := 7) (v := Value.int (iI (X 3))) (C := RX7) (T := TX7) (N := 12) hx hb hts in_X7_readNext_X7 hown hK.1 hP 0 (rfl) rfl 3 (by decide) (hts _ (List.mem_of_getElem? (i := 3) rfl) : (Cond.fieldLink RX7 26 "CordSeals$Text" "failed" "Z").before _ s = true) (fun _ h9 => h9) rfl dX7_readNext_45 ?_
        refine zi_if_ne (tgt := 55) hx hb ⟨by omega, by omega⟩ dX7_readNext_48 (by decide) (fun c_4 => ?_) (fun c_4 => ?_)
        · have _ := c_4
          refine lv_iconst (v := iI 0) hx hb dX7_readNext_55 (by decide) ?_
          exact rw_zret hx hb hr hlocks hP hS (⟨by first | (exfalso; omega) | (rw [tNext, if_neg (by omega), if_neg (by rw [hse]; omega), hse]; exact ⟨rfl, rfl⟩) | (rw [tNext, if_neg (by omega), if_pos (by rw [hse]; omega), hse, hq?]; first | (rw [decide_eq_true (by omega)]; exact ⟨rfl, rfl⟩) | (rw [decide_eq_false (by omega)]; exact ⟨rfl, rfl⟩)), by first | exact ⟨false, rfl⟩ | exact ⟨true, rfl⟩⟩) dX7_readNext_56
        · have _ := c_4
          refine lv_iconst (v := iI 1) hx hb dX7_readNext_51 (by decide) ?_
          refine lv_goto (tgt := 56) hx hb dX7_readNext_52 (by decide) ?_
          exact rw_zret hx hb hr hlocks hP hS (⟨by first | (exfalso; omega) | (rw [tNext, if_neg (by omega), if_neg (by rw [hse]; omega), hse]; exact ⟨rfl, rfl⟩) | (rw [tNext, if_neg (by omega), if_pos (by rw [hse]; omega), hse, hq?]; first | (rw [decide_eq_true (by omega)]; exact ⟨rfl, rfl⟩) | (rw [decide_eq_false (by omega)]; exact ⟨rfl, rfl⟩)), by first | exact ⟨false, rfl⟩ | exact ⟨true, rfl⟩⟩) dX7_readNext_56
      · have _ := c_3
        refine lv_aload_n hx hb dX7_readNext_40 rfl (lv_at hl 0 rfl) ?_
        refine rw_V (As := []) (rest := []) ⟨hx, hb, hml, hown, hts⟩ (c_X7_readEntry l g τ ta X S hS2 hT) gX7_readNext_X7_readEntry cd_X7_readEntry rfl rfl ⟨rfl, rfl⟩ ⟨Nat.le_of_ble_eq_true rfl, Nat.le_of_ble_eq_true rfl⟩ hK hP hD hS [0, 1] (rfl) (by decide) 0 rfl rfl rfl rfl hl rfl (Nat.le_of_ble_eq_true rfl) dX7_readNext_41 ⟨Nat.le_of_ble_eq_true rfl, Nat.le_of_ble_eq_true rfl⟩ (fun v w h => by rw [h.2]; exact f_tx _ _ _ _ _) (fun v w1 H locs hZ hP hD hS => ?_)
        obtain ⟨rfl, rfl⟩ := hZ
        rw [b_tx] at hP hD
        generalize hqd_5 : tEntry X S = d_5 at hP hD ⊢
        have htd_5 : TI (d_5) := hqd_5 ▸ tEntry_ok hT
        refine tl_none ?_
        refine lv_aload_n hx hb dX7_readNext_44 rfl (lv_at hl 0 rfl) ?_
        refine va_get (D := g) (ci := 7) (v := Value.int (iI (d_5 3))) (C := RX7) (T := TX7) (N := 12) hx hb hts in_X7_readNext_X7 hown hK.1 hP 0 (rfl) rfl 3 (by decide) (hts _ (List.mem_of_getElem? (i := 3) rfl) : (Cond.fieldLink RX7 26 "CordSeals$Text" "failed" "Z").before _ s = true) (fun _ h9 => h9) rfl dX7_readNext_45 ?_
        refine zi_if_ne (tgt := 55) hx hb ⟨by omega, by omega⟩ dX7_readNext_48 (by decide) (fun c_6 => ?_) (fun c_6 => ?_)
        · have _ := c_6
          refine lv_iconst (v := iI 0) hx hb dX7_readNext_55 (by decide) ?_
          exact rw_zret hx hb hr hlocks hP hS (⟨by first | (exfalso; omega) | (rw [tNext, if_neg (by omega), if_neg (by rw [hse]; omega), hse]; exact ⟨rfl, rfl⟩) | (rw [tNext, if_neg (by omega), if_pos (by rw [hse]; omega), hse, hqd_5]; first | (rw [decide_eq_true (by omega)]; exact ⟨rfl, rfl⟩) | (rw [decide_eq_false (by omega)]; exact ⟨rfl, rfl⟩)), by first | exact ⟨false, rfl⟩ | exact ⟨true, rfl⟩⟩) dX7_readNext_56
        · have _ := c_6
          refine lv_iconst (v := iI 1) hx hb dX7_readNext_51 (by decide) ?_
          refine lv_goto (tgt := 56) hx hb dX7_readNext_52 (by decide) ?_
          exact rw_zret hx hb hr hlocks hP hS (⟨by first | (exfalso; omega) | (rw [tNext, if_neg (by omega), if_neg (by rw [hse]; omega), hse]; exact ⟨rfl, rfl⟩) | (rw [tNext, if_neg (by omega), if_pos (by rw [hse]; omega), hse, hqd_5]; first | (rw [decide_eq_true (by omega)]; exact ⟨rfl, rfl⟩) | (rw [decide_eq_false (by omega)]; exact ⟨rfl, rfl⟩)), by first | exact ⟨false, rfl⟩ | exact ⟨true, rfl⟩⟩) dX7_readNext_56
    · have _ := c_2
      refine lv_aload_n hx hb dX7_readNext_27 rfl (lv_at hl 0 rfl) ?_
      refine lv_bipush (v := iI 59) hx hb dX7_readNext_28 (by decide) ?_
      refine rw_V (As := [Value.int (iI 59)]) (rest := []) ⟨hx, hb, hml, hown, hts⟩ (c_X7_readSign l g τ ta X S hS2 hT 59 (by omega)) gX7_readNext_X7_readSign cd_X7_readSign rfl rfl ⟨rfl, rfl⟩ ⟨Nat.le_of_ble_eq_true rfl, Nat.le_of_ble_eq_true rfl⟩ hK hP hD hS [0, 1] (rfl) (by decide) 0 rfl rfl rfl rfl hl rfl (Nat.le_of_ble_eq_true rfl) dX7_readNext_30 ⟨Nat.le_of_ble_eq_true rfl, Nat.le_of_ble_eq_true rfl⟩ (fun v w h => by rw [h.2]; exact f_tx _ _ _ _ _) (fun v w1 H locs hZ hP hD hS => ?_)
      obtain ⟨rfl, rfl⟩ := hZ
      rw [b_tx] at hP hD
      generalize hqd_7 : tSgn X S 59 = d_7 at hP hD ⊢
      have htd_7 : TI (d_7) := hqd_7 ▸ tSgn_ok hT 59
      refine tl_none ?_
      have hse : tSemi X S = d_7 := by unfold tSemi; first | exact if_neg (by omega) | (rw [if_pos (by omega)]; assumption)
      refine lv_aload_n hx hb dX7_readNext_33 rfl (lv_at hl 0 rfl) ?_
      refine va_get (D := g) (ci := 7) (v := Value.int (iI (d_7 3))) (C := RX7) (T := TX7) (N := 12) hx hb hts in_X7_readNext_X7 hown hK.1 hP 0 (rfl) rfl 3 (by decide) (hts _ (List.mem_of_getElem? (i := 3) rfl) : (Cond.fieldLink RX7 26 "CordSeals$Text" "failed" "Z").before _ s = true) (fun _ h9 => h9) rfl dX7_readNext_34 ?_
      refine zi_if_ne (tgt := 44) hx hb ⟨by omega, by omega⟩ dX7_readNext_37 (by decide) (fun c_8 => ?_) (fun c_8 => ?_)
      · have _ := c_8
        refine lv_aload_n hx hb dX7_readNext_44 rfl (lv_at hl 0 rfl) ?_
        refine va_get (D := g) (ci := 7) (v := Value.int (iI (d_7 3))) (C := RX7) (T := TX7) (N := 12) hx hb hts in_X7_readNext_X7 hown hK.1 hP 0 (rfl) rfl 3 (by decide) (hts _ (List.mem_of_getElem? (i := 3) rfl) : (Cond.fieldLink RX7 26 "CordSeals$Text" "failed" "Z").before _ s = true) (fun _ h9 => h9) rfl dX7_readNext_45 ?_
        refine zi_if_ne (tgt := 55) hx hb ⟨by omega, by omega⟩ dX7_readNext_48 (by decide) (fun c_9 => ?_) (fun c_9 => ?_)
        · have _ := c_9
          refine lv_iconst (v := iI 0) hx hb dX7_readNext_55 (by decide) ?_
          exact rw_zret hx hb hr hlocks hP hS (⟨by first | (exfalso; omega) | (rw [tNext, if_neg (by omega), if_neg (by rw [hse]; omega), hse]; exact ⟨rfl, rfl⟩) | (rw [tNext, if_neg (by omega), if_pos (by rw [hse]; omega), hse, hqd_7]; first | (rw [decide_eq_true (by omega)]; exact ⟨rfl, rfl⟩) | (rw [decide_eq_false (by omega)]; exact ⟨rfl, rfl⟩)), by first | exact ⟨false, rfl⟩ | exact ⟨true, rfl⟩⟩) dX7_readNext_56
        · have _ := c_9
          refine lv_iconst (v := iI 1) hx hb dX7_readNext_51 (by decide) ?_
          refine lv_goto (tgt := 56) hx hb dX7_readNext_52 (by decide) ?_
          exact rw_zret hx hb hr hlocks hP hS (⟨by first | (exfalso; omega) | (rw [tNext, if_neg (by omega), if_neg (by rw [hse]; omega), hse]; exact ⟨rfl, rfl⟩) | (rw [tNext, if_neg (by omega), if_pos (by rw [hse]; omega), hse, hqd_7]; first | (rw [decide_eq_true (by omega)]; exact ⟨rfl, rfl⟩) | (rw [decide_eq_false (by omega)]; exact ⟨rfl, rfl⟩)), by first | exact ⟨false, rfl⟩ | exact ⟨true, rfl⟩⟩) dX7_readNext_56
      · have _ := c_8
        refine lv_aload_n hx hb dX7_readNext_40 rfl (lv_at hl 0 rfl) ?_
        refine rw_V (As := []) (rest := []) ⟨hx, hb, hml, hown, hts⟩ (c_X7_readEntry l g τ ta d_7 S hS2 htd_7) gX7_readNext_X7_readEntry cd_X7_readEntry rfl rfl ⟨rfl, rfl⟩ ⟨Nat.le_of_ble_eq_true rfl, Nat.le_of_ble_eq_true rfl⟩ hK hP hD hS [0, 1] (rfl) (by decide) 0 rfl rfl rfl rfl hl rfl (Nat.le_of_ble_eq_true rfl) dX7_readNext_41 ⟨Nat.le_of_ble_eq_true rfl, Nat.le_of_ble_eq_true rfl⟩ (fun v w h => by rw [h.2]; exact f_tx _ _ _ _ _) (fun v w1 H locs hZ hP hD hS => ?_)
        obtain ⟨rfl, rfl⟩ := hZ
        rw [b_tx] at hP hD
        generalize hqd_10 : tEntry d_7 S = d_10 at hP hD ⊢
        have htd_10 : TI (d_10) := hqd_10 ▸ tEntry_ok htd_7
        refine tl_none ?_
        refine lv_aload_n hx hb dX7_readNext_44 rfl (lv_at hl 0 rfl) ?_
        refine va_get (D := g) (ci := 7) (v := Value.int (iI (d_10 3))) (C := RX7) (T := TX7) (N := 12) hx hb hts in_X7_readNext_X7 hown hK.1 hP 0 (rfl) rfl 3 (by decide) (hts _ (List.mem_of_getElem? (i := 3) rfl) : (Cond.fieldLink RX7 26 "CordSeals$Text" "failed" "Z").before _ s = true) (fun _ h9 => h9) rfl dX7_readNext_45 ?_
        refine zi_if_ne (tgt := 55) hx hb ⟨by omega, by omega⟩ dX7_readNext_48 (by decide) (fun c_11 => ?_) (fun c_11 => ?_)
        · have _ := c_11
          refine lv_iconst (v := iI 0) hx hb dX7_readNext_55 (by decide) ?_
          exact rw_zret hx hb hr hlocks hP hS (⟨by first | (exfalso; omega) | (rw [tNext, if_neg (by omega), if_neg (by rw [hse]; omega), hse]; exact ⟨rfl, rfl⟩) | (rw [tNext, if_neg (by omega), if_pos (by rw [hse]; omega), hse, hqd_10]; first | (rw [decide_eq_true (by omega)]; exact ⟨rfl, rfl⟩) | (rw [decide_eq_false (by omega)]; exact ⟨rfl, rfl⟩)), by first | exact ⟨false, rfl⟩ | exact ⟨true, rfl⟩⟩) dX7_readNext_56
        · have _ := c_11
          refine lv_iconst (v := iI 1) hx hb dX7_readNext_51 (by decide) ?_
          refine lv_goto (tgt := 56) hx hb dX7_readNext_52 (by decide) ?_
          exact rw_zret hx hb hr hlocks hP hS (⟨by first | (exfalso; omega) | (rw [tNext, if_neg (by omega), if_neg (by rw [hse]; omega), hse]; exact ⟨rfl, rfl⟩) | (rw [tNext, if_neg (by omega), if_pos (by rw [hse]; omega), hse, hqd_10]; first | (rw [decide_eq_true (by omega)]; exact ⟨rfl, rfl⟩) | (rw [decide_eq_false (by omega)]; exact ⟨rfl, rfl⟩)), by first | exact ⟨false, rfl⟩ | exact ⟨true, rfl⟩⟩) dX7_readNext_56
  · have _ := c_1
    refine lv_aload_n hx hb dX7_readNext_7 rfl (lv_at hl 0 rfl) ?_
    refine va_get (D := g) (ci := 7) (v := Value.int (iI (X 2))) (C := RX7) (T := TX7) (N := 12) hx hb hts in_X7_readNext_X7 hown hK.1 hP 0 (rfl) rfl 2 (by decide) (hts _ (List.mem_of_getElem? (i := 1) rfl) : (Cond.fieldLink RX7 30 "CordSeals$Text" "at" "I").before _ s = true) (fun _ h9 => h9) rfl dX7_readNext_8 ?_
    refine lv_aload_n hx hb dX7_readNext_11 rfl (lv_at hl 0 rfl) ?_
    refine va_get (D := g) (ci := 7) (v := Value.int (iI (X 0))) (C := RX7) (T := TX7) (N := 12) hx hb hts in_X7_readNext_X7 hown hK.1 hP 0 (rfl) rfl 0 (by decide) (hts _ (List.mem_of_getElem? (i := 2) rfl) : (Cond.fieldLink RX7 15 "CordSeals$Text" "length" "I").before _ s = true) (fun _ h9 => h9) rfl dX7_readNext_12 ?_
    refine zi_icmp_lt (tgt := 20) hx hb ⟨by omega, by omega⟩ ⟨by omega, by omega⟩ dX7_readNext_15 (by decide) (fun c_12 => ?_) (fun c_12 => ?_)
    · have _ := c_12
      refine lv_aload_n hx hb dX7_readNext_20 rfl (lv_at hl 0 rfl) ?_
      refine va_get (D := g) (ci := 7) (v := Value.int (iI (X 2))) (C := RX7) (T := TX7) (N := 12) hx hb hts in_X7_readNext_X7 hown hK.1 hP 0 (rfl) rfl 2 (by decide) (hts _ (List.mem_of_getElem? (i := 1) rfl) : (Cond.fieldLink RX7 30 "CordSeals$Text" "at" "I").before _ s = true) (fun _ h9 => h9) rfl dX7_readNext_21 ?_
      refine zi_if_le (tgt := 33) hx hb ⟨by omega, by omega⟩ dX7_readNext_24 (by decide) (fun c_13 => ?_) (fun c_13 => ?_)
      · have _ := c_13
        have hse : tSemi X S = X := by unfold tSemi; first | exact if_neg (by omega) | (rw [if_pos (by omega)]; assumption)
        refine lv_aload_n hx hb dX7_readNext_33 rfl (lv_at hl 0 rfl) ?_
        refine va_get (D := g) (ci := 7) (v := Value.int (iI (X 3))) (C := RX7) (T := TX7) (N := 12) hx hb hts in_X7_readNext_X7 hown hK.1 hP 0 (rfl) rfl 3 (by decide) (hts _ (List.mem_of_getElem? (i := 3) rfl) : (Cond.fieldLink RX7 26 "CordSeals$Text" "failed" "Z").before _ s = true) (fun _ h9 => h9) rfl dX7_readNext_34 ?_
        refine zi_if_ne (tgt := 44) hx hb ⟨by omega, by omega⟩ dX7_readNext_37 (by decide) (fun c_14 => ?_) (fun c_14 => ?_)
        · have _ := c_14
          refine lv_aload_n hx hb dX7_readNext_44 rfl (lv_at hl 0 rfl) ?_
          refine va_get (D := g) (ci := 7) (v := Value.int (iI (X 3))) (C := RX7) (T := TX7) (N := 12) hx hb hts in_X7_readNext_X7 hown hK.1 hP 0 (rfl) rfl 3 (by decide) (hts _ (List.mem_of_getElem? (i := 3) rfl) : (Cond.fieldLink RX7 26 "CordSeals$Text" "failed" "Z").before _ s = true) (fun _ h9 => h9) rfl dX7_readNext_45 ?_
          refine zi_if_ne (tgt := 55) hx hb ⟨by omega, by omega⟩ dX7_readNext_48 (by decide) (fun c_15 => ?_) (fun c_15 => ?_)
          · have _ := c_15
            refine lv_iconst (v := iI 0) hx hb dX7_readNext_55 (by decide) ?_
            exact rw_zret hx hb hr hlocks hP hS (⟨by first | (exfalso; omega) | (rw [tNext, if_neg (by omega), if_neg (by rw [hse]; omega), hse]; exact ⟨rfl, rfl⟩) | (rw [tNext, if_neg (by omega), if_pos (by rw [hse]; omega), hse, hq?]; first | (rw [decide_eq_true (by omega)]; exact ⟨rfl, rfl⟩) | (rw [decide_eq_false (by omega)]; exact ⟨rfl, rfl⟩)), by first | exact ⟨false, rfl⟩ | exact ⟨true, rfl⟩⟩) dX7_readNext_56
          · have _ := c_15
            refine lv_iconst (v := iI 1) hx hb dX7_readNext_51 (by decide) ?_
            refine lv_goto (tgt := 56) hx hb dX7_readNext_52 (by decide) ?_
            exact rw_zret hx hb hr hlocks hP hS (⟨by first | (exfalso; omega) | (rw [tNext, if_neg (by omega), if_neg (by rw [hse]; omega), hse]; exact ⟨rfl, rfl⟩) | (rw [tNext, if_neg (by omega), if_pos (by rw [hse]; omega), hse, hq?]; first | (rw [decide_eq_true (by omega)]; exact ⟨rfl, rfl⟩) | (rw [decide_eq_false (by omega)]; exact ⟨rfl, rfl⟩)), by first | exact ⟨false, rfl⟩ | exact ⟨true, rfl⟩⟩) dX7_readNext_56
        · have _ := c_14
          refine lv_aload_n hx hb dX7_readNext_40 rfl (lv_at hl 0 rfl) ?_
          refine rw_V (As := []) (rest := []) ⟨hx, hb, hml, hown, hts⟩ (c_X7_readEntry l g τ ta X S hS2 hT) gX7_readNext_X7_readEntry cd_X7_readEntry rfl rfl ⟨rfl, rfl⟩ ⟨Nat.le_of_ble_eq_true rfl, Nat.le_of_ble_eq_true rfl⟩ hK hP hD hS [0, 1] (rfl) (by decide) 0 rfl rfl rfl rfl hl rfl (Nat.le_of_ble_eq_true rfl) dX7_readNext_41 ⟨Nat.le_of_ble_eq_true rfl, Nat.le_of_ble_eq_true rfl⟩ (fun v w h => by rw [h.2]; exact f_tx _ _ _ _ _) (fun v w1 H locs hZ hP hD hS => ?_)
          obtain ⟨rfl, rfl⟩ := hZ
          rw [b_tx] at hP hD
          generalize hqd_16 : tEntry X S = d_16 at hP hD ⊢
          have htd_16 : TI (d_16) := hqd_16 ▸ tEntry_ok hT
          refine tl_none ?_
          refine lv_aload_n hx hb dX7_readNext_44 rfl (lv_at hl 0 rfl) ?_
          refine va_get (D := g) (ci := 7) (v := Value.int (iI (d_16 3))) (C := RX7) (T := TX7) (N := 12) hx hb hts in_X7_readNext_X7 hown hK.1 hP 0 (rfl) rfl 3 (by decide) (hts _ (List.mem_of_getElem? (i := 3) rfl) : (Cond.fieldLink RX7 26 "CordSeals$Text" "failed" "Z").before _ s = true) (fun _ h9 => h9) rfl dX7_readNext_45 ?_
          refine zi_if_ne (tgt := 55) hx hb ⟨by omega, by omega⟩ dX7_readNext_48 (by decide) (fun c_17 => ?_) (fun c_17 => ?_)
          · have _ := c_17
            refine lv_iconst (v := iI 0) hx hb dX7_readNext_55 (by decide) ?_
            exact rw_zret hx hb hr hlocks hP hS (⟨by first | (exfalso; omega) | (rw [tNext, if_neg (by omega), if_neg (by rw [hse]; omega), hse]; exact ⟨rfl, rfl⟩) | (rw [tNext, if_neg (by omega), if_pos (by rw [hse]; omega), hse, hqd_16]; first | (rw [decide_eq_true (by omega)]; exact ⟨rfl, rfl⟩) | (rw [decide_eq_false (by omega)]; exact ⟨rfl, rfl⟩)), by first | exact ⟨false, rfl⟩ | exact ⟨true, rfl⟩⟩) dX7_readNext_56
          · have _ := c_17
            refine lv_iconst (v := iI 1) hx hb dX7_readNext_51 (by decide) ?_
            refine lv_goto (tgt := 56) hx hb dX7_readNext_52 (by decide) ?_
            exact rw_zret hx hb hr hlocks hP hS (⟨by first | (exfalso; omega) | (rw [tNext, if_neg (by omega), if_neg (by rw [hse]; omega), hse]; exact ⟨rfl, rfl⟩) | (rw [tNext, if_neg (by omega), if_pos (by rw [hse]; omega), hse, hqd_16]; first | (rw [decide_eq_true (by omega)]; exact ⟨rfl, rfl⟩) | (rw [decide_eq_false (by omega)]; exact ⟨rfl, rfl⟩)), by first | exact ⟨false, rfl⟩ | exact ⟨true, rfl⟩⟩) dX7_readNext_56
      · have _ := c_13
        refine lv_aload_n hx hb dX7_readNext_27 rfl (lv_at hl 0 rfl) ?_
        refine lv_bipush (v := iI 59) hx hb dX7_readNext_28 (by decide) ?_
        refine rw_V (As := [Value.int (iI 59)]) (rest := []) ⟨hx, hb, hml, hown, hts⟩ (c_X7_readSign l g τ ta X S hS2 hT 59 (by omega)) gX7_readNext_X7_readSign cd_X7_readSign rfl rfl ⟨rfl, rfl⟩ ⟨Nat.le_of_ble_eq_true rfl, Nat.le_of_ble_eq_true rfl⟩ hK hP hD hS [0, 1] (rfl) (by decide) 0 rfl rfl rfl rfl hl rfl (Nat.le_of_ble_eq_true rfl) dX7_readNext_30 ⟨Nat.le_of_ble_eq_true rfl, Nat.le_of_ble_eq_true rfl⟩ (fun v w h => by rw [h.2]; exact f_tx _ _ _ _ _) (fun v w1 H locs hZ hP hD hS => ?_)
        obtain ⟨rfl, rfl⟩ := hZ
        rw [b_tx] at hP hD
        generalize hqd_18 : tSgn X S 59 = d_18 at hP hD ⊢
        have htd_18 : TI (d_18) := hqd_18 ▸ tSgn_ok hT 59
        refine tl_none ?_
        have hse : tSemi X S = d_18 := by unfold tSemi; first | exact if_neg (by omega) | (rw [if_pos (by omega)]; assumption)
        refine lv_aload_n hx hb dX7_readNext_33 rfl (lv_at hl 0 rfl) ?_
        refine va_get (D := g) (ci := 7) (v := Value.int (iI (d_18 3))) (C := RX7) (T := TX7) (N := 12) hx hb hts in_X7_readNext_X7 hown hK.1 hP 0 (rfl) rfl 3 (by decide) (hts _ (List.mem_of_getElem? (i := 3) rfl) : (Cond.fieldLink RX7 26 "CordSeals$Text" "failed" "Z").before _ s = true) (fun _ h9 => h9) rfl dX7_readNext_34 ?_
        refine zi_if_ne (tgt := 44) hx hb ⟨by omega, by omega⟩ dX7_readNext_37 (by decide) (fun c_19 => ?_) (fun c_19 => ?_)
        · have _ := c_19
          refine lv_aload_n hx hb dX7_readNext_44 rfl (lv_at hl 0 rfl) ?_
          refine va_get (D := g) (ci := 7) (v := Value.int (iI (d_18 3))) (C := RX7) (T := TX7) (N := 12) hx hb hts in_X7_readNext_X7 hown hK.1 hP 0 (rfl) rfl 3 (by decide) (hts _ (List.mem_of_getElem? (i := 3) rfl) : (Cond.fieldLink RX7 26 "CordSeals$Text" "failed" "Z").before _ s = true) (fun _ h9 => h9) rfl dX7_readNext_45 ?_
          refine zi_if_ne (tgt := 55) hx hb ⟨by omega, by omega⟩ dX7_readNext_48 (by decide) (fun c_20 => ?_) (fun c_20 => ?_)
          · have _ := c_20
            refine lv_iconst (v := iI 0) hx hb dX7_readNext_55 (by decide) ?_
            exact rw_zret hx hb hr hlocks hP hS (⟨by first | (exfalso; omega) | (rw [tNext, if_neg (by omega), if_neg (by rw [hse]; omega), hse]; exact ⟨rfl, rfl⟩) | (rw [tNext, if_neg (by omega), if_pos (by rw [hse]; omega), hse, hqd_18]; first | (rw [decide_eq_true (by omega)]; exact ⟨rfl, rfl⟩) | (rw [decide_eq_false (by omega)]; exact ⟨rfl, rfl⟩)), by first | exact ⟨false, rfl⟩ | exact ⟨true, rfl⟩⟩) dX7_readNext_56
          · have _ := c_20
            refine lv_iconst (v := iI 1) hx hb dX7_readNext_51 (by decide) ?_
            refine lv_goto (tgt := 56) hx hb dX7_readNext_52 (by decide) ?_
            exact rw_zret hx hb hr hlocks hP hS (⟨by first | (exfalso; omega) | (rw [tNext, if_neg (by omega), if_neg (by rw [hse]; omega), hse]; exact ⟨rfl, rfl⟩) | (rw [tNext, if_neg (by omega), if_pos (by rw [hse]; omega), hse, hqd_18]; first | (rw [decide_eq_true (by omega)]; exact ⟨rfl, rfl⟩) | (rw [decide_eq_false (by omega)]; exact ⟨rfl, rfl⟩)), by first | exact ⟨false, rfl⟩ | exact ⟨true, rfl⟩⟩) dX7_readNext_56
        · have _ := c_19
          refine lv_aload_n hx hb dX7_readNext_40 rfl (lv_at hl 0 rfl) ?_
          refine rw_V (As := []) (rest := []) ⟨hx, hb, hml, hown, hts⟩ (c_X7_readEntry l g τ ta d_18 S hS2 htd_18) gX7_readNext_X7_readEntry cd_X7_readEntry rfl rfl ⟨rfl, rfl⟩ ⟨Nat.le_of_ble_eq_true rfl, Nat.le_of_ble_eq_true rfl⟩ hK hP hD hS [0, 1] (rfl) (by decide) 0 rfl rfl rfl rfl hl rfl (Nat.le_of_ble_eq_true rfl) dX7_readNext_41 ⟨Nat.le_of_ble_eq_true rfl, Nat.le_of_ble_eq_true rfl⟩ (fun v w h => by rw [h.2]; exact f_tx _ _ _ _ _) (fun v w1 H locs hZ hP hD hS => ?_)
          obtain ⟨rfl, rfl⟩ := hZ
          rw [b_tx] at hP hD
          generalize hqd_21 : tEntry d_18 S = d_21 at hP hD ⊢
          have htd_21 : TI (d_21) := hqd_21 ▸ tEntry_ok htd_18
          refine tl_none ?_
          refine lv_aload_n hx hb dX7_readNext_44 rfl (lv_at hl 0 rfl) ?_
          refine va_get (D := g) (ci := 7) (v := Value.int (iI (d_21 3))) (C := RX7) (T := TX7) (N := 12) hx hb hts in_X7_readNext_X7 hown hK.1 hP 0 (rfl) rfl 3 (by decide) (hts _ (List.mem_of_getElem? (i := 3) rfl) : (Cond.fieldLink RX7 26 "CordSeals$Text" "failed" "Z").before _ s = true) (fun _ h9 => h9) rfl dX7_readNext_45 ?_
          refine zi_if_ne (tgt := 55) hx hb ⟨by omega, by omega⟩ dX7_readNext_48 (by decide) (fun c_22 => ?_) (fun c_22 => ?_)
          · have _ := c_22
            refine lv_iconst (v := iI 0) hx hb dX7_readNext_55 (by decide) ?_
            exact rw_zret hx hb hr hlocks hP hS (⟨by first | (exfalso; omega) | (rw [tNext, if_neg (by omega), if_neg (by rw [hse]; omega), hse]; exact ⟨rfl, rfl⟩) | (rw [tNext, if_neg (by omega), if_pos (by rw [hse]; omega), hse, hqd_21]; first | (rw [decide_eq_true (by omega)]; exact ⟨rfl, rfl⟩) | (rw [decide_eq_false (by omega)]; exact ⟨rfl, rfl⟩)), by first | exact ⟨false, rfl⟩ | exact ⟨true, rfl⟩⟩) dX7_readNext_56
          · have _ := c_22
            refine lv_iconst (v := iI 1) hx hb dX7_readNext_51 (by decide) ?_
            refine lv_goto (tgt := 56) hx hb dX7_readNext_52 (by decide) ?_
            exact rw_zret hx hb hr hlocks hP hS (⟨by first | (exfalso; omega) | (rw [tNext, if_neg (by omega), if_neg (by rw [hse]; omega), hse]; exact ⟨rfl, rfl⟩) | (rw [tNext, if_neg (by omega), if_pos (by rw [hse]; omega), hse, hqd_21]; first | (rw [decide_eq_true (by omega)]; exact ⟨rfl, rfl⟩) | (rw [decide_eq_false (by omega)]; exact ⟨rfl, rfl⟩)), by first | exact ⟨false, rfl⟩ | exact ⟨true, rfl⟩⟩) dX7_readNext_56
    · have _ := c_12
      refine lv_iconst (v := iI 0) hx hb dX7_readNext_18 (by decide) ?_
      exact rw_zret hx hb hr hlocks hP hS (⟨by rw [tNext, if_pos ⟨by omega, by omega⟩]; exact ⟨rfl, rfl⟩, false, rfl⟩) dX7_readNext_19

theorem cd_X7_firstError : cd yX7_firstError 0 := by decide +kernel
theorem in_X7_firstError_X7 : ∀ w ∈ wsX70, w ∈ wsX7_firstError := by decide +kernel
set_option maxHeartbeats 1000000 in
set_option maxRecDepth 100000 in
theorem c_X7_firstError (l : Launch) (g : va_G) (τ : Nat → ClassId) (ta : Nat → Nat) (X S : Nat → Int) (hS2 : SB S) (hT : TL X)  : Met l yX7_firstError wsX7_firstError { frames := 6, cells := 0, slots := 0, locals := 126 } (va_Pc [Value.ref (ta 0)] (rwW g τ (txW ta X S τ))) (rwQ g (fun v w => v = some (Value.int (iI (tErr X S))) ∧ w = txW ta (tAll X S) S τ) (inW (txW ta X S τ))) 0 0 (inW (txW ta X S τ)) := by
  refine rwMet (cc := cX7_firstError) (maxL := 2) (ret := (some .int)) (lv := [(0, Value.ref (ta 0))]) (by decide) rfl (Nat.le_of_ble_eq_true rfl) rfl ?_
  intro p e s m below meth c hx hb hr hml hts hown hlocks A H hP hD hS hK ls hl
  refine lv_aload_n hx hb dX7_firstError_0 rfl (lv_at hl 0 rfl) ?_
  refine rw_V (As := []) (rest := []) ⟨hx, hb, hml, hown, hts⟩ (c_X7_toStart l g τ ta X S hS2 hT) gX7_firstError_X7_toStart cd_X7_toStart rfl rfl ⟨rfl, rfl⟩ ⟨Nat.le_of_ble_eq_true rfl, Nat.le_of_ble_eq_true rfl⟩ hK hP hD hS [0, 1] (rfl) (by decide) 0 rfl rfl rfl rfl hl rfl (Nat.le_of_ble_eq_true rfl) dX7_firstError_1 ⟨Nat.le_of_ble_eq_true rfl, Nat.le_of_ble_eq_true rfl⟩ (fun v w h => by rw [h.2]; exact f_tx _ _ _ _ _) (fun v w1 H locs hZ hP hD hS => ?_)
  obtain ⟨rfl, rfl⟩ := hZ
  rw [b_tx] at hP hD
  generalize hqd_1 : updZ (updZ X 2 0) 3 0 = d_1 at hP hD ⊢
  have htd_1 : TI (d_1) := hqd_1 ▸ TI_0 hT
  refine tl_none ?_
  refine lv_iconst (v := iI 0) hx hb dX7_firstError_4 (by decide) ?_
  refine lv_istore_n (lv' := [(1, Value.int (iI 0)), (0, Value.ref (ta 0))]) hx hb dX7_firstError_5 rfl hl (by decide) rfl (fun ls hl => ?_)
  have hP : va_P g vwCl (txW ta (tLoop X S 0) S τ) H := by first | exact hP | (subst hqd_1; exact hP)
  have hD : va_D A (txW ta (tLoop X S 0) S τ) := by first | exact hD | (subst hqd_1; exact hD)
  refine lp_upW (fun i => [(1, Value.int (iI (i : Int))), (0, Value.ref (ta 0))]) (fun i => txW ta (tLoop X S i) S τ) (fun i => ∀ j, j < i → (!(tNext (tLoop X S j) S).1) = false) (120) (0) (by omega) hP hD hS (by first | trivial | (intro j hj; omega)) (lv_eq (lv_sub hl [0, 1] rfl) (by show [(1, Value.int (iI 0)), (0, Value.ref (ta 0))] = [(1, Value.int (iI 0)), (0, Value.ref (ta 0))]; rfl)) (fun i h0_i hi_i hI_i ih_6 H locs hP hD hS ls hl => ?_)
  have hlk := tLoop_ok (S := S) hT i
  refine lv_iload_n hx hb dX7_firstError_6 rfl (lv_at hl 0 rfl) ?_
  refine lv_bipush (v := iI 120) hx hb dX7_firstError_7 (by decide) ?_
  refine zi_icmp_ge (tgt := 25) hx hb ⟨by omega, by omega⟩ ⟨by decide, by decide⟩ dX7_firstError_9 (by decide) (fun c_2 => ?_) (fun c_2 => ?_)
  · have _ := c_2
    have hal : tAll X S = tLoop X S i := by (have h0 : i = 120 := by omega); subst h0; rw [tAll, tCnt, fst_none hI_i, if_neg (by omega)]
    refine lv_aload_n hx hb dX7_firstError_25 rfl (lv_at hl 1 rfl) ?_
    refine va_get (D := g) (ci := 7) (v := Value.int (iI ((tLoop X S i) 3))) (C := RX7) (T := TX7) (N := 12) hx hb hts in_X7_firstError_X7 hown hK.1 hP 0 (rfl) rfl 3 (by decide) (hts _ (List.mem_of_getElem? (i := 1) rfl) : (Cond.fieldLink RX7 26 "CordSeals$Text" "failed" "Z").before _ s = true) (fun _ h9 => h9) rfl dX7_firstError_26 ?_
    refine zi_if_eq (tgt := 39) hx hb ⟨by omega, by omega⟩ dX7_firstError_29 (by decide) (fun c_3 => ?_) (fun c_3 => ?_)
    · have _ := c_3
      refine lv_iconst (v := iI (-1)) hx hb dX7_firstError_39 (by decide) ?_
      exact rw_iret hx hb hr hlocks hP hS (by rw [tErr, hal]; first | (rw [if_pos (by omega)]; exact ⟨rfl, rfl⟩) | (rw [if_neg (by omega)]; exact ⟨rfl, rfl⟩)) dX7_firstError_40
    · have _ := c_3
      refine lv_aload_n hx hb dX7_firstError_32 rfl (lv_at hl 1 rfl) ?_
      refine va_get (D := g) (ci := 7) (v := Value.int (iI ((tLoop X S i) 2))) (C := RX7) (T := TX7) (N := 12) hx hb hts in_X7_firstError_X7 hown hK.1 hP 0 (rfl) rfl 2 (by decide) (hts _ (List.mem_of_getElem? (i := 2) rfl) : (Cond.fieldLink RX7 30 "CordSeals$Text" "at" "I").before _ s = true) (fun _ h9 => h9) rfl dX7_firstError_33 ?_
      refine lv_goto (tgt := 40) hx hb dX7_firstError_36 (by decide) ?_
      exact rw_iret hx hb hr hlocks hP hS (by rw [tErr, hal]; first | (rw [if_pos (by omega)]; exact ⟨rfl, rfl⟩) | (rw [if_neg (by omega)]; exact ⟨rfl, rfl⟩)) dX7_firstError_40
  · have _ := c_2
    have hl_i : i < 120 := by omega
    refine lv_aload_n hx hb dX7_firstError_12 rfl (lv_at hl 1 rfl) ?_
    refine rw_V (As := []) (rest := []) ⟨hx, hb, hml, hown, hts⟩ (c_X7_readNext l g τ ta (tLoop X S i) S hS2 hlk) gX7_firstError_X7_readNext cd_X7_readNext rfl rfl ⟨rfl, rfl⟩ ⟨Nat.le_of_ble_eq_true rfl, Nat.le_of_ble_eq_true rfl⟩ hK hP hD hS [0, 1] (rfl) (by decide) 0 rfl rfl rfl rfl hl rfl (Nat.le_of_ble_eq_true rfl) dX7_firstError_13 ⟨Nat.le_of_ble_eq_true rfl, Nat.le_of_ble_eq_true rfl⟩ (fun v w h => by rw [h.2]; exact f_tx _ _ _ _ _) (fun v w1 H locs hZ hP hD hS => ?_)
    obtain ⟨rfl, rfl⟩ := hZ
    rw [b_tx] at hP hD
    generalize hqd_4 : tNext (tLoop X S i) S = d_4 at hP hD ⊢
    have htd_4 : TI d_4.2 := hqd_4 ▸ tNext_ok hlk
    refine tl_some ?_
    refine zb_if_eq (tgt := 25) hx hb dX7_firstError_16 (by decide) (fun c_5 => ?_) (fun c_5 => ?_)
    · have _ := c_5
      have hal : tAll X S = d_4.2 := by (have hc : tCnt X S = i := fst_some hI_i (by rw [hqd_4]; simp [c_5]) hl_i); rw [tAll, hc, if_pos hl_i, hqd_4]
      refine lv_aload_n hx hb dX7_firstError_25 rfl (lv_at hl 1 rfl) ?_
      refine va_get (D := g) (ci := 7) (v := Value.int (iI (d_4.2 3))) (C := RX7) (T := TX7) (N := 12) hx hb hts in_X7_firstError_X7 hown hK.1 hP 0 (rfl) rfl 3 (by decide) (hts _ (List.mem_of_getElem? (i := 1) rfl) : (Cond.fieldLink RX7 26 "CordSeals$Text" "failed" "Z").before _ s = true) (fun _ h9 => h9) rfl dX7_firstError_26 ?_
      refine zi_if_eq (tgt := 39) hx hb ⟨by omega, by omega⟩ dX7_firstError_29 (by decide) (fun c_6 => ?_) (fun c_6 => ?_)
      · have _ := c_6
        refine lv_iconst (v := iI (-1)) hx hb dX7_firstError_39 (by decide) ?_
        exact rw_iret hx hb hr hlocks hP hS (by rw [tErr, hal]; first | (rw [if_pos (by omega)]; exact ⟨rfl, rfl⟩) | (rw [if_neg (by omega)]; exact ⟨rfl, rfl⟩)) dX7_firstError_40
      · have _ := c_6
        refine lv_aload_n hx hb dX7_firstError_32 rfl (lv_at hl 1 rfl) ?_
        refine va_get (D := g) (ci := 7) (v := Value.int (iI (d_4.2 2))) (C := RX7) (T := TX7) (N := 12) hx hb hts in_X7_firstError_X7 hown hK.1 hP 0 (rfl) rfl 2 (by decide) (hts _ (List.mem_of_getElem? (i := 2) rfl) : (Cond.fieldLink RX7 30 "CordSeals$Text" "at" "I").before _ s = true) (fun _ h9 => h9) rfl dX7_firstError_33 ?_
        refine lv_goto (tgt := 40) hx hb dX7_firstError_36 (by decide) ?_
        exact rw_iret hx hb hr hlocks hP hS (by rw [tErr, hal]; first | (rw [if_pos (by omega)]; exact ⟨rfl, rfl⟩) | (rw [if_neg (by omega)]; exact ⟨rfl, rfl⟩)) dX7_firstError_40
    · have _ := c_5
      refine zi_inc (v := ((i + 1 : Nat) : Int)) (lv' := [(1, Value.int (iI ((i + 1 : Nat) : Int))), (0, Value.ref (ta 0))]) hx hb dX7_firstError_19 hl (k := 0) rfl (by omega) (by decide) rfl (fun ls hl => ?_)
      refine lv_goto (tgt := 6) hx hb dX7_firstError_22 (by decide) ?_
      have hb_7 : (((i + 1) : Nat) : Int) = ((i + 1 : Nat) : Int) := by first | rfl | omega | (simp [c_2, c_5]; done)
      have hw_8 : txW ta d_4.2 S τ = txW ta (tLoop X S (i + 1)) S τ := by rw [tLoop, hqd_4]
      rw [hw_8] at hP hD
      exact ih_6 hl_i (lt_step hI_i (by rw [hqd_4]; simp [c_5])) _ _ _ hP hD hS (lv_eq (lv_sub hl [0, 1] rfl) (by show [(1, Value.int (iI (((i + 1) : Nat) : Int))), (0, Value.ref (ta 0))] = [(1, Value.int (iI ((i + 1 : Nat) : Int))), (0, Value.ref (ta 0))]; rw [hb_7]))
