/-! the loop -/
theorem all35 {P : Nat → Prop} (h0 : P 0) (h1 : P 1) (h2 : P 2) (h3 : P 3) (h4 : P 4) (h5 : P 5) (h6 : P 6) (h7 : P 7) (h8 : P 8) (h9 : P 9) (h10 : P 10) (h11 : P 11) (h12 : P 12) (h13 : P 13) (h14 : P 14) (h15 : P 15) (h16 : P 16) (h17 : P 17) (h18 : P 18) (h19 : P 19) (h20 : P 20) (h21 : P 21) (h22 : P 22) (h23 : P 23) (h24 : P 24) (h25 : P 25) (h26 : P 26) (h27 : P 27) (h28 : P 28) (h29 : P 29) (h30 : P 30) (h31 : P 31) (h32 : P 32) (h33 : P 33) (h34 : P 34) : ∀ k, k < 35 → P k
  | 0, _ => h0
  | 1, _ => h1
  | 2, _ => h2
  | 3, _ => h3
  | 4, _ => h4
  | 5, _ => h5
  | 6, _ => h6
  | 7, _ => h7
  | 8, _ => h8
  | 9, _ => h9
  | 10, _ => h10
  | 11, _ => h11
  | 12, _ => h12
  | 13, _ => h13
  | 14, _ => h14
  | 15, _ => h15
  | 16, _ => h16
  | 17, _ => h17
  | 18, _ => h18
  | 19, _ => h19
  | 20, _ => h20
  | 21, _ => h21
  | 22, _ => h22
  | 23, _ => h23
  | 24, _ => h24
  | 25, _ => h25
  | 26, _ => h26
  | 27, _ => h27
  | 28, _ => h28
  | 29, _ => h29
  | 30, _ => h30
  | 31, _ => h31
  | 32, _ => h32
  | 33, _ => h33
  | 34, _ => h34
  | k + 35, h => absurd h (by omega)
def tgL (k : Nat) : Nat := ([196, 252, 265, 278, 322, 378, 446, 514, 582, 650, 718, 793, 861, 929, 997, 1077, 1145, 1249, 1317, 1385, 1441, 1521, 1577, 1633, 1701, 1745, 1813, 1869, 1937, 2005, 2061, 2129, 2229, 2329, 2385] : List Nat).getD k 0
def ofL (k : Nat) : Int := ([156, 212, 225, 238, 282, 338, 406, 474, 542, 610, 678, 753, 821, 889, 957, 1037, 1105, 1209, 1277, 1345, 1401, 1481, 1537, 1593, 1661, 1705, 1773, 1829, 1897, 1965, 2021, 2089, 2189, 2289, 2345] : List Int).getD k 0
theorem of_tg : ∀ k, k < 35 → (#[156, 212, 225, 238, 282, 338, 406, 474, 542, 610, 678, 753, 821, 889, 957, 1037, 1105, 1209, 1277, 1345, 1401, 1481, 1537, 1593, 1661, 1705, 1773, 1829, 1897, 1965, 2021, 2089, 2189, 2289, 2345] : Array Int)[k]? = some (ofL k) ∧ ((40 : Nat) : Int) + ofL k = (tgL k : Int) := all35 ⟨rfl, rfl⟩ ⟨rfl, rfl⟩ ⟨rfl, rfl⟩ ⟨rfl, rfl⟩ ⟨rfl, rfl⟩ ⟨rfl, rfl⟩ ⟨rfl, rfl⟩ ⟨rfl, rfl⟩ ⟨rfl, rfl⟩ ⟨rfl, rfl⟩ ⟨rfl, rfl⟩ ⟨rfl, rfl⟩ ⟨rfl, rfl⟩ ⟨rfl, rfl⟩ ⟨rfl, rfl⟩ ⟨rfl, rfl⟩ ⟨rfl, rfl⟩ ⟨rfl, rfl⟩ ⟨rfl, rfl⟩ ⟨rfl, rfl⟩ ⟨rfl, rfl⟩ ⟨rfl, rfl⟩ ⟨rfl, rfl⟩ ⟨rfl, rfl⟩ ⟨rfl, rfl⟩ ⟨rfl, rfl⟩ ⟨rfl, rfl⟩ ⟨rfl, rfl⟩ ⟨rfl, rfl⟩ ⟨rfl, rfl⟩ ⟨rfl, rfl⟩ ⟨rfl, rfl⟩ ⟨rfl, rfl⟩ ⟨rfl, rfl⟩ ⟨rfl, rfl⟩
section LLP
variable {p : Program} {l : Launch} {e : Env} {s : State} {m : MethodId} {below : List Frame} {meth : Method} {c : Code} {H : Heap} {locs : List Loc} {cells slots : Nat} {QQ : State → Prop} {b L : Nat} {xs : Nat → Int32} {g : va_G} {τ : Nat → ClassId} {A : Nat → Prop} {ls : Array Slot} {x mm oa : Nat} {z : Int64} {w wm : va_W}
theorem lw_sw (C0 : LC p s m meth c b L xs g τ A) {v : Int32} (kd : W p l e room_1 s m #[Value.ref b] below meth c H locs cells slots QQ (F0 m 2441 ls [])) (kk : ∀ k, k < 35 → W p l e room_1 s m #[Value.ref b] below meth c H locs cells slots QQ (F0 m (tgL k) ls [])) : W p l e room_1 s m #[Value.ref b] below meth c H locs cells slots QQ (F0 m 40 ls [.int v]) := by
  have hx := C0.1.1
  have hb := C0.1.2.1
  by_cases h : v.toInt < 0 ∨ 34 < v.toInt
  · exact lv_tableOut (tgt := 2441) hx hb dL_law_40 h (by decide) kd
  · obtain ⟨h1, h2⟩ := of_tg v.toInt.toNat (by omega)
    refine lv_tableIn (off := ofL v.toInt.toNat) (tgt := tgL v.toInt.toNat) hx hb dL_law_40 (by omega) (by omega) ?_ h2 (kk _ (by omega))
    rw [show (v.toInt - 0).toNat = v.toInt.toNat by omega]
    exact h1
theorem lw_loop (hst : l.stackTraces = false) (C0 : LC p s m meth c b L xs g τ A) {c0 s0 : Nat} (hc0 : c0 ≤ 1000 ∧ s0 ≤ 20000) (kend : ∀ (j : Nat) (H : Heap) (locs : List Loc) (ls : Array Slot), j ≤ 512 → va_S A s.heap H locs → W p l e room_1 s m #[Value.ref b] below meth c H locs (c0 + j) (s0 + 6 * j) QQ (F0 m 2447 ls [])) : ∀ (d j : Nat), 6 * j ≤ L → L < 6 * j + 6 * d → ∀ (z : Int64) (w wm : va_W) (H : Heap) (locs : List Loc) (ls : Array Slot), JW τ x mm w wm → va_P g vwCl ([outC oa z τ] ++ (w ++ wm)) H → va_D A ([outC oa z τ] ++ (w ++ wm)) → va_S A s.heap H locs → lv_has ls 7 [(4, .int (iI (((6 * j : Nat) : Int)))), (3, .ref oa), (2, .ref mm), (1, .ref x), (0, .ref b)] → W p l e room_1 s m #[Value.ref b] below meth c H locs (c0 + j) (s0 + 6 * j) QQ (F0 m 23 ls []) := by
  intro d
  induction d with
  | zero => intro j h1 h2; omega
  | succ d ih =>
    intro j h1 h2 z w wm H locs ls hj hP hD hS hl
    have hx := C0.1.1
    have hb := C0.1.2.1
    obtain ⟨hX, hbl, hbA, hL⟩ := C0.2.2.1
    refine lv_iload hx hb dL_law_23 (lv_at hl 0 rfl) ?_
    refine lv_aload_n hx hb dL_law_25 rfl (lv_at hl 4 rfl) ?_
    refine va_slen hx hb hX hbl hbA hS dL_law_26 ?_
    refine cv_i (y := iI (L : Int)) (by rw [iI_nat]; rfl) ?_
    refine lv_bipush (v := iI 6) hx hb dL_law_27 (by decide) ?_
    refine zi_sub hx hb dL_law_29 ?_
    refine zi_icmp_gt (tgt := 2447) hx hb ⟨by omega, by omega⟩ ⟨by omega, by omega⟩ dL_law_30 (by decide) (fun q => kend j H locs ls (by omega) hS) (fun q => ?_)
    have hi : 6 * j + 6 ≤ L := by omega
    have hc : c0 + j + 1 ≤ 601024 ∧ s0 + 6 * j + 6 ≤ 7293034 := ⟨by omega, by omega⟩
    refine lv_aload_n hx hb dL_law_33 rfl (lv_at hl 4 rfl) ?_
    refine lv_iload hx hb dL_law_34 (lv_at hl 0 rfl) ?_
    refine va_sld hx hb hX hbl hbA hS (by rw [iI_nat]; exact vp_in_nI (by omega) (by omega)) dL_law_36 ?_
    refine lv_bipush (v := iI 63) hx hb dL_law_37 (by decide) ?_
    refine lv_iand hx hb dL_law_39 ?_
    have kk : lwK p l e s m below meth c (c0 + j) (s0 + 6 * j) QQ g τ A x mm oa b (6 * j) := by
      intro z w wm H locs ls hj hP hD hS hl
      refine zi_inc (k := 0) (x := ((6 * j : Nat) : Int)) (v := ((6 * (j + 1) : Nat) : Int)) (lv' := [(4, .int (iI (((6 * (j + 1) : Nat) : Int)))), (3, .ref oa), (2, .ref mm), (1, .ref x), (0, .ref b)]) hx hb dL_law_2441 hl rfl (by omega) (by decide) rfl (fun ls hl => ?_)
      refine lv_goto (tgt := 23) hx hb dL_law_2444 (by decide) ?_
      exact ih (j + 1) (by omega) (by omega) z w wm H locs ls hj hP hD hS hl
    refine lw_sw C0 (W.widen (Nat.le_succ _) (Nat.le_add_right _ 6) (kk z w wm H locs ls hj hP hD hS hl)) (all35 (lc_append hst C0 hi hj hP hD hS hl hc kk) (lc_clearText hst C0 hi hj hP hD hS hl hc kk) (lc_errorPosition hst C0 hi hj hP hD hS hl hc kk) (lc_load hst C0 hi hj hP hD hS hl hc kk) (lc_about hst C0 hi hj hP hD hS hl hc kk) (lc_ofReign hst C0 hi hj hP hD hS hl hc kk) (lc_ofDie hst C0 hi hj hP hD hS hl hc kk) (lc_crackYear hst C0 hi hj hP hD hS hl hc kk) (lc_ofSeal hst C0 hi hj hP hD hS hl hc kk) (lc_dated hst C0 hi hj hP hD hS hl hc kk) (lc_isPossible hst C0 hi hj hP hD hS hl hc kk) (lc_charter hst C0 hi hj hP hD hS hl hc kk) (lc_onShelf hst C0 hi hj hP hD hS hl hc kk) (lc_reign hst C0 hi hj hP hD hS hl hc kk) (lc_die hst C0 hi hj hP hD hS hl hc kk) (lc_crack hst C0 hi hj hP hD hS hl hc kk) (lc_seal hst C0 hi hj hP hD hS hl hc kk) (lc_show hst C0 hi hj hP hD hS hl hc kk) (lc_hang hst C0 hi hj hP hD hS hl hc kk) (lc_cut hst C0 hi hj hP hD hS hl hc kk) (lc_shelve hst C0 hi hj hP hD hS hl hc kk) (lc_take hst C0 hi hj hP hD hS hl hc kk) (lc_sort hst C0 hi hj hP hD hS hl hc kk) (lc_set hst C0 hi hj hP hD hS hl hc kk) (lc_undo hst C0 hi hj hP hD hS hl hc kk) (lc_older hst C0 hi hj hP hD hS hl hc kk) (lc_decides hst C0 hi hj hP hD hS hl hc kk) (lc_ifCracked hst C0 hi hj hP hD hS hl hc kk) (lc_ifHung hst C0 hi hj hP hD hS hl hc kk) (lc_inYear hst C0 hi hj hP hD hS hl hc kk) (lc_leastBubbles hst C0 hi hj hP hD hS hl hc kk) (lc_runScript hst C0 hi hj hP hD hS hl hc kk) (lc_simulate hst C0 hi hj hP hD hS hl hc kk) (lc_save hst C0 hi hj hP hD hS hl hc kk) (lc_restore hst C0 hi hj hP hD hS hl hc kk))
end LLP
