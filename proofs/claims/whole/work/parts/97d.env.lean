/-! the tables at the start; the first worlds -/
theorem lw_env {s : State} {b : Addr} (hts : ∀ w ∈ lw_tbl, w.before #[Value.ref b] s = true) (hgv : (Jvm.Cond.and given_1 narrow_1).before #[Value.ref b] s = true) : ∃ (g : va_G) (τ : Nat → ClassId), KI g τ s ∧ ZT s ∧ ZU (fun q => s.heap.size ≤ q) s s.heap ∧ ZC s := by
  have hf := flat_of_before _ hgv
  obtain ⟨c0, i0, k0⟩ := u_known (C := RX0) (T := TX0) (N := 6) (n := 6) hts (fun w h => (gT_wsX00 w h).1) (hts _ mw_60.1)
  obtain ⟨c1, i1, k1⟩ := u_known (C := RX1) (T := TX1) (N := 6) (n := 6) hts (fun w h => (gT_wsX10 w h).1) (hts _ mw_16.1)
  obtain ⟨c2, i2, k2⟩ := u_known (C := RX2) (T := TX2) (N := 3) (n := 3) hts (fun w h => (gT_wsX20 w h).1) (hts _ mw_12.1)
  obtain ⟨c3, i3, k3⟩ := u_known (C := RX3) (T := TX3) (N := 3) (n := 3) hts (fun w h => (gT_wsX30 w h).1) (hts _ mw_64.1)
  obtain ⟨c4, i4, k4⟩ := u_known (C := RX4) (T := TX4) (N := 7) (n := 7) hts (fun w h => (gT_wsX40 w h).1) (hts _ mw_56.1)
  obtain ⟨c5, i5, k5⟩ := u_known (C := RX5) (T := TX5) (N := 2) (n := 2) hts (fun w h => (gT_wsX50 w h).1) (hts _ mw_52.1)
  obtain ⟨c6, i6, k6⟩ := u_known (C := RX6) (T := TX6) (N := 5) (n := 5) hts (fun w h => (gT_wsX60 w h).1) (hts _ mw_5.1)
  obtain ⟨c7, i7, k7⟩ := u_known (C := RX7) (T := TX7) (N := 12) (n := 12) hts (fun w h => (gT_wsX70 w h).1) (hts _ mw_20.1)
  obtain ⟨c8, i8, k8⟩ := u_known (C := RX8) (T := TX8) (N := 3) (n := 3) hts (fun w h => (gT_wsX80 w h).1) (hts _ mw_33.1)
  obtain ⟨c9, i9, k9⟩ := u_known (C := RX9) (T := TX9) (N := 7) (n := 7) hts (fun w h => (gT_wsX90 w h).1) (hts _ mw_1453)
  obtain ⟨c10, i10, k10⟩ := u_known (C := RX10) (T := TX10) (N := 18) (n := 18) hts (fun w h => (gT_wsX100 w h).1) (hts _ mw_1457)
  obtain ⟨g, hg⟩ : ∃ g : va_G, ∀ (k : Nat) (q : vw_C), vwCl[k]? = some q → u_Kn s q.1 q.2.1 q.2.2 (g.1 k) (g.2 k) := by
    refine ⟨(fun k => ([c0, c1, c2, c3, c4, c5, c6, c7, c8, c9, c10] : List ClassId).getD k c0, fun k => ([i0, i1, i2, i3, i4, i5, i6, i7, i8, i9, i10] : List (Nat → Nat)).getD k i0), ?_⟩
    intro k q hq
    rcases k with _ | _ | _ | _ | _ | _ | _ | _ | _ | _ | _ | k
    · cases hq; exact k0
    · cases hq; exact k1
    · cases hq; exact k2
    · cases hq; exact k3
    · cases hq; exact k4
    · cases hq; exact k5
    · cases hq; exact k6
    · cases hq; exact k7
    · cases hq; exact k8
    · cases hq; exact k9
    · cases hq; exact k10
    · cases hq
  have hN : NWs s := by
    refine ⟨va_Nw.of rfl (hts _ mw_1470), fun q hq => ?_⟩
    rcases List.mem_cons.mp hq with rfl | hq
    · exact va_Nw.of rfl (hts _ mw_1471)
    rcases List.mem_cons.mp hq with rfl | hq
    · exact va_Nw.of rfl (hts _ mw_1472)
    rcases List.mem_cons.mp hq with rfl | hq
    · exact va_Nw.of rfl (hts _ mw_1473)
    rcases List.mem_cons.mp hq with rfl | hq
    · exact va_Nw.of rfl (hts _ mw_1474)
    rcases List.mem_cons.mp hq with rfl | hq
    · exact va_Nw.of rfl (hts _ mw_1475)
    rcases List.mem_cons.mp hq with rfl | hq
    · exact va_Nw.of rfl (hts _ mw_1476)
    rcases List.mem_cons.mp hq with rfl | hq
    · exact va_Nw.of rfl (hts _ mw_1477)
    rcases List.mem_cons.mp hq with rfl | hq
    · exact va_Nw.of rfl (hts _ mw_1478)
    rcases List.mem_cons.mp hq with rfl | hq
    · exact va_Nw.of rfl (hts _ mw_1479)
    rcases List.mem_cons.mp hq with rfl | hq
    · exact va_Nw.of rfl (hts _ mw_1480)
    rcases List.mem_cons.mp hq with rfl | hq
    · exact va_Nw.of rfl (hts _ mw_1481)
    rcases List.mem_cons.mp hq with rfl | hq
    · exact va_Nw.of rfl (hts _ mw_1482)
    exact absurd hq List.not_mem_nil
  obtain ⟨τ, hKI⟩ := KI_of hg (hts _ mw_37.1) (hts _ mw_7.1) (hts _ mw_46.1) (hts _ mw_1461) (va_AO.of (hts _ mw_1468)) (va_AO.of (hts _ mw_1469)) hN
  refine ⟨g, τ, hKI, ⟨⟨?_, ?_, ?_⟩, fun w hw a => ?_⟩, ⟨?_, ?_⟩, ?_⟩
  · obtain ⟨a, _, _, _, ha, -⟩ := Cond.exactly_spec (hf (Cond.exactly (Term.string "CordSeals" 367) "java/lang/String") (by decide +kernel))
    exact ⟨a, vk_R.of (hts _ mw_1462) ha⟩
  · obtain ⟨a, _, _, _, ha, -⟩ := Cond.exactly_spec (hf (Cond.exactly (Term.string "CordSeals" 374) "java/lang/String") (by decide +kernel))
    exact ⟨a, vk_R.of (hts _ mw_1463) ha⟩
  · obtain ⟨a, _, _, _, ha, -⟩ := Cond.exactly_spec (hf (Cond.exactly (Term.string "CordSeals" 379) "java/lang/String") (by decide +kernel))
    exact ⟨a, vk_R.of (hts _ mw_1464) ha⟩
  · have h := List.all_eq_true.mp xBad_ok w hw
    rw [Bool.and_eq_true] at h
    exact va_tabs h.1 rfl (hts w (xBad_in w hw))
  · exact vx_Zqof (hts _ mw_1465) (hts _ mw_1467) (hf (Cond.isRef (.static "java/lang/Throwable" "UNASSIGNED_STACK" "[Ljava/lang/StackTraceElement;")) (by decide +kernel)) (fun a h => Nat.not_le.mpr h)
  · exact vx_Zqof (hts _ mw_1466) (hts _ mw_1467) (hf (Cond.isRef (.static "java/lang/Throwable" "SUPPRESSED_SENTINEL" "Ljava/util/List;")) (by decide +kernel)) (fun a h => Nat.not_le.mpr h)
  · intro q hq
    rcases List.mem_cons.mp hq with rfl | hq
    · exact va_Nc.of (hf (Cond.not (.castable "java/lang/IllegalArgumentException" "java/lang/IndexOutOfBoundsException")) (by decide +kernel))
    rcases List.mem_cons.mp hq with rfl | hq
    · exact va_Nc.of (hf (Cond.not (.castable "java/lang/IllegalStateException" "java/lang/IndexOutOfBoundsException")) (by decide +kernel))
    rcases List.mem_cons.mp hq with rfl | hq
    · exact va_Nc.of (hf (Cond.not (.castable "java/lang/IndexOutOfBoundsException" "java/lang/IllegalArgumentException")) (by decide +kernel))
    rcases List.mem_cons.mp hq with rfl | hq
    · exact va_Nc.of (hf (Cond.not (.castable "java/lang/IllegalStateException" "java/lang/IllegalArgumentException")) (by decide +kernel))
    rcases List.mem_cons.mp hq with rfl | hq
    · exact va_Nc.of (hf (Cond.not (.castable "java/lang/IndexOutOfBoundsException" "java/lang/IllegalStateException")) (by decide +kernel))
    rcases List.mem_cons.mp hq with rfl | hq
    · exact va_Nc.of (hf (Cond.not (.castable "java/lang/IllegalArgumentException" "java/lang/IllegalStateException")) (by decide +kernel))
    exact absurd hq List.not_mem_nil
theorem R00_z : R00 (fun _ _ => 0) = R0z := by
  funext k j
  unfold R00 R0z u2 zf updZ
  by_cases c1 : k = 20
  · rw [if_pos c1, if_pos c1]
  · rw [if_neg c1, if_neg c1]
    by_cases c2 : k = 18
    · rw [if_pos c2]
      by_cases c3 : j < 6
      · rw [if_pos c3]
      · rw [if_neg c3]
    · rw [if_neg c2]
      by_cases c3 : k = 10
      · rw [if_pos c3]
      · rw [if_neg c3]
        by_cases c4 : k = 4
        · rw [if_pos c4]
        · rw [if_neg c4]
          by_cases c5 : k = 1
          · rw [if_pos c5]
          · rw [if_neg c5]
theorem flR_z (j : Nat) : flR (fun _ _ => 0) j = 0 := by
  simp only [flR, ite_self]
theorem bkF_z : bkF (fun _ _ _ => 0) = fun _ => 0 := by
  funext j
  exact flR_z _
theorem bk_st (τ : Nat → ClassId) (AD : Nat → Nat → Nat) : ∀ n : Nat, bk (St0 τ) AD n = bk (stB τ) (fun j => (AD j, R00 (fun _ _ => 0))) n
  | 0 => rfl
  | n + 1 => by
    show bk (St0 τ) AD n ++ St0 τ (AD n) = bk (stB τ) (fun j => (AD j, R00 (fun _ _ => 0))) n ++ stB τ (AD n, R00 (fun _ _ => 0))
    rw [bk_st τ AD n]
    rfl
theorem pc_first (Z X LL VV J M RR SS TT KK : va_W) : ((Z ++ (X ++ (LL ++ VV)) ++ (((J ++ (M ++ RR)) ++ SS) ++ TT)) ++ KK).Perm (Z ++ (SS ++ (TT ++ (M ++ (J ++ (X ++ (LL ++ (VV ++ (RR ++ KK))))))))) := by
  have h := List.Perm.flatMap_right (fun i => ([Z, X, LL, VV, J, M, RR, SS, TT, KK] : List va_W).getD i []) (show List.Perm [0, 1, 2, 3, 4, 5, 6, 7, 8, 9] [0, 7, 8, 5, 4, 1, 2, 3, 6, 9] by decide)
  simpa [List.append_assoc] using h
theorem EQ_z : EQ (R00 (fun _ _ => 0)) R0z := EQ_0 _
theorem CW_first (τ : Nat → ClassId) (h0 : Nat) (ta aj me ad bd : Nat → Nat) (AD SL : Nat → Nat → Nat) (sl sv : Nat) : CW τ h0 R0z 0 (fun _ _ _ => 0) (fun _ => 0) (fun _ _ _ => 0) 0 (fun _ => 0) (([xoC h0 (ta 0) (aj 0) (me 0) sl sv (ad 0) (bd 0)] ++ (txW ta (fun _ => 0) (fun _ => 0) τ ++ ([slC sl (fN (fun j => SL j 0) 2) τ] ++ [svC sv (fun _ => 0) τ])) ++ (((juW aj (fun _ _ => 0) τ ++ (meW me 0 0 (fN (fun j => AD j 0) 14) τ ++ bk (St0 τ) AD 14)) ++ St0 τ ad) ++ St0 τ bd)) ++ bk (St0 τ) SL 2) := by
  have hz : SI (R00 (fun _ _ => 0)) := by
    rw [R00_z]
    exact SI_z
  have a1 : -1 ≤ (0 : Int) ∧ (0 : Int) < 65536 := by decide
  have a2 : (0 : Int) ≤ 0 := by decide
  have a3 : (0 : Int) ≤ 0 ∧ (0 : Int) ≤ 255 := by decide
  have a4 : ¬ (0 : Int) = 1 := by decide
  refine ⟨sl, sv, ta, aj, me, ad, bd, R00 (fun _ _ => 0), R00 (fun _ _ => 0), fun _ _ => 0, 0, fun _ => 0, fun j => (AD j, R00 (fun _ _ => 0)), fun j => (SL j, R00 (fun _ _ => 0)), ⟨⟨hz, SI_z, EQ_z⟩, ⟨fun _ _ => a1, fun _ _ => a2⟩, ⟨⟨by decide, by decide, by decide, by decide⟩, fun _ => a1, rfl⟩, fun _ => a3, RG_0 _ _ ⟨by decide, by decide⟩, fun _ => Or.inl rfl, fun _ => hz, fun j hj => absurd hj a4⟩, ?_⟩
  rw [bk_st, bk_st]
  exact pc_first _ _ _ _ _ _ _ _ _ _
theorem MW_first (τ : Nat → ClassId) (ma : Nat → Nat) : MW τ (ma 0) R0z 0 (fun _ _ _ => 0) (fun _ => 0) (fun _ _ _ => 0) 0 (fun _ => 0) 0 [moO ma (fun _ => 0), arC (ma 1) (τ 0) 291 (flR R0z), arC (ma 2) (τ 0) 291 (fun _ => 0), arC (ma 3) (τ 0) 291 (fun _ => 0), arC (ma 4) (τ 0) 4074 (fun _ => 0), arC (ma 6) (τ 0) 582 (fun _ => 0), arC (ma 7) (τ 1) 2 (fun _ => 0), arC (ma 8) (τ 0) 120 (fun _ => 0), arC (ma 17) (τ 0) 6 (fun _ => 0)] := by
  have a3 : (0 : Int) ≤ 0 ∧ (0 : Int) ≤ 255 := by decide
  have a4 : ¬ (0 : Int) = 1 := by decide
  refine ⟨ma, fun _ => 0, fun _ => 0, fun _ => 0, fun _ => 0, ⟨SI_z, by decide, fun j hj => by omega, fun _ => a3, by decide, fun _ => Or.inl rfl, fun j hj => absurd hj a4⟩, ⟨rfl, rfl, rfl, rfl⟩, ?_⟩
  unfold MWl
  rw [bkF_z]
