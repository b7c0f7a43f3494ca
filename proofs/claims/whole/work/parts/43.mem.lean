section ZM
variable {p : Program} {l : Launch} {e : Env} {R : Room} {s : State} {m : MethodId} {args : Array Value} {below : List Frame} {meth : Method} {c : Code} {H H0 : Heap} {locs : List Loc} {cells slots : Nat} {Q : State → Prop}
variable {cc : ByteArray} {nL pc : Nat} {rest : List Value} {ls : Array Slot} {g : va_G} {τ : Nat → ClassId} {ws wo : va_W} {A : Nat → Prop}
theorem zc_nar {z : Int} (hz : 0 ≤ z ∧ z < 65536) : vp_nar .char (iI z) = iI z := by
  obtain ⟨x, rfl⟩ := Int.eq_ofNat_of_zero_le hz.1
  rw [iI_nat]
  unfold vp_nar
  rw [(pk_charN (by omega)).1]
theorem zz_nar {z : Int} (hz : 0 ≤ z ∧ z ≤ 1) : vp_nar .boolean (iI z) = iI z := by
  have : z = 0 ∨ z = 1 := by omega
  rcases this with rfl | rfl <;> rfl
theorem zc_ast (hx : p.tables.exec = Jvm.exec) (hb : c.code = cc) (hK : KK g τ s) (hP : va_P g vwCl ws H) (hD : va_D A ws) (hS : va_S A H0 H locs) (q0 : Nat) {aa N : Nat} {f : Nat → Int} (ha : ws[q0]? = some (aa, .inl (τ 2, N, .inl (fun j => iI (f j))))) {i z : Int} (k : Nat) (hi : i = (k : Int)) (hk : k < N) (hN : N < 2 ^ 31) (hz : 0 ≤ z ∧ z < 65536) (d : decode cc pc = .ok (.castore, 1)) (hwo : ws.set q0 (aa, .inl (τ 2, N, .inl (fun j => iI (updZ f k z j)))) = wo)
    (kk : ∀ (H1 : Heap) (locs1 : List Loc), va_P g vwCl wo H1 → va_D A wo → va_S A H0 H1 locs1 → W p l e R s m args below meth c H1 locs1 cells slots Q (F0 m (pc + 1) ls rest)) : W p l e R s m args below meth c H locs cells slots Q (F0 m pc ls (.int (iI z) :: .int (iI i) :: .ref aa :: rest)) := by
  subst hi; subst hwo
  refine va_cast (i := iI (k : Int)) (x := iI z) hx hb hK.1 hP hD hS q0 2 ha rfl (by rw [iI_nat]; exact vp_in_nI hk hN) d ?_
  rw [zc_nar hz, iI_cl (Nat.lt_trans hk hN), updZ_iI]
  exact kk
theorem zz_ast (hx : p.tables.exec = Jvm.exec) (hb : c.code = cc) (hK : KK g τ s) (hP : va_P g vwCl ws H) (hD : va_D A ws) (hS : va_S A H0 H locs) (q0 : Nat) {aa N : Nat} {f : Nat → Int} (ha : ws[q0]? = some (aa, .inl (τ 1, N, .inl (fun j => iI (f j))))) {i z : Int} (k : Nat) (hi : i = (k : Int)) (hk : k < N) (hN : N < 2 ^ 31) (hz : 0 ≤ z ∧ z ≤ 1) (d : decode cc pc = .ok (.bastore, 1)) (hwo : ws.set q0 (aa, .inl (τ 1, N, .inl (fun j => iI (updZ f k z j)))) = wo)
    (kk : ∀ (H1 : Heap) (locs1 : List Loc), va_P g vwCl wo H1 → va_D A wo → va_S A H0 H1 locs1 → W p l e R s m args below meth c H1 locs1 cells slots Q (F0 m (pc + 1) ls rest)) : W p l e R s m args below meth c H locs cells slots Q (F0 m pc ls (.int (iI z) :: .int (iI i) :: .ref aa :: rest)) := by
  subst hi; subst hwo
  refine va_zast (i := iI (k : Int)) (x := iI z) hx hb hK.1 hP hD hS q0 1 ha rfl (by rw [iI_nat]; exact vp_in_nI hk hN) d ?_
  rw [zz_nar hz, iI_cl (Nat.lt_trans hk hN), updZ_iI]
  exact kk
/-- a State into a row of States -/
theorem zq_ast (hx : p.tables.exec = Jvm.exec) (hb : c.code = cc) (hK : KK g τ s) (hP : va_P g vwCl ws H) (hD : va_D A ws) (hS : va_S A H0 H locs) (q0 qk : Nat) {aa N b : Nat} {vs : List Value} {f : Nat → Option Nat} (ha : ws[q0]? = some (aa, .inl (τ 4, N, .inr (.inr (.inr (.inr f)))))) (hv : ws[qk]? = some (b, .inr (6, vs))) {i : Int} (k : Nat) (hi : i = (k : Int)) (hk : k < N) (hN : N < 2 ^ 31) (d : decode cc pc = .ok (.aastore, 1)) (hwo : ws.set q0 (aa, .inl (τ 4, N, .inr (.inr (.inr (.inr (va_up f k (some b))))))) = wo)
    (kk : ∀ (H1 : Heap) (locs1 : List Loc), va_P g vwCl wo H1 → va_D A wo → va_S A H0 H1 locs1 → W p l e R s m args below meth c H1 locs1 cells slots Q (F0 m (pc + 1) ls rest)) : W p l e R s m args below meth c H locs cells slots Q (F0 m pc ls (.ref b :: .int (iI i) :: .ref aa :: rest)) := by
  subst hi; subst hwo
  refine va_astq (i := iI (k : Int)) (r := (RX6, TX6, 5)) hx hb hK.1 hP hD hS q0 4 qk 6 ha rfl hv rfl (by rw [iI_nat]; exact vp_in_nI hk hN) d ?_
  rw [iI_cl (Nat.lt_trans hk hN)]
  exact kk
theorem rw_aret {Z : Option Value → va_W → Prop} {r : Nat} {nm : String} (hexec : p.tables.exec = Jvm.exec) (hb : c.code = cc) (hr : meth.sig.returnType = some (.object nm)) (hlocks : meth.locks = false) (hP : va_P g vwCl ws H) (hS : va_S A s.heap H locs) (hZ : Z (some (.ref r)) ws) (hdg : decode cc pc = .ok (.areturn, 1)) : W p l e R s m args below meth c H locs 0 0 (MQ below (rwQ g Z A) args s 0 0 A) (F0 m pc ls [.ref r]) :=
  W.aret hexec hb hr (Or.inl ⟨nm, rfl⟩) (Or.inr ⟨r, rfl⟩) (fun t ht _ => ⟨_, ws, hZ, rfl, by rw [ht]; exact hP, hS.F ht⟩) hS.2.2 hdg
end ZM
def meW (me : Nat → Nat) (n o : Int) (rg : Nat → Option Nat) (τ : Nat → ClassId) : va_W := [(me 0, .inr (2, [.int (iI n), .int (iI o), .ref (me 1)])), (me 1, .inl (τ 4, 14, .inr (.inr (.inr (.inr rg)))))]
def aEnter (R : Nat → Nat → Int) (X : Nat → Int) : Int × (Nat → Nat → Int) :=
  if X 4 = 114 then aReign R (X 6) (X 10) else if X 4 = 100 then aDie R (X 5) (X 6) (X 7) else if X 4 = 107 then aCrack R (X 5) (X 6) else if X 4 = 119 then aSeal R (X 5) 0 (X 8) (X 9) (X 10) else if X 4 = 98 then aSeal R (X 5) 1 (X 8) (X 9) (X 10) else aHang R (X 5) (X 11)
theorem f_stx (ad ta : Nat → Nat) (R RR : Nat → Nat → Int) (τ : Nat → ClassId) : (stW ad RR τ).map Prod.fst = (stW ad R τ).map Prod.fst := rfl
theorem repl_front : ∀ (Y X T P : va_W), X.length = Y.length → va_repl (P ++ (X ++ T)) ((List.range' P.length Y.length).zip Y) = P ++ (Y ++ T)
  | [], X, T, P, h => by
    have : X = [] := List.length_eq_zero_iff.mp h
    subst this
    rfl
  | y :: Y, X, T, P, h => by
    cases X with
    | nil => cases h
    | cons x X =>
      have h2 : X.length = Y.length := by simpa using h
      rw [List.length_cons, List.range'_succ]
      show va_repl ((P ++ x :: (X ++ T)).set P.length y) ((List.range' (P.length + 1) Y.length).zip Y) = _
      rw [List.set_append, if_neg (by omega), Nat.sub_self, List.set_cons_zero]
      have h3 := repl_front Y X T (P ++ [y]) h2
      rw [List.length_append, List.length_singleton, List.append_assoc] at h3
      rw [show P ++ y :: (X ++ T) = P ++ ([y] ++ (X ++ T)) from rfl, h3, List.append_assoc]
      rfl
theorem b_stx {ad ta : Nat → Nat} {R RR : Nat → Nat → Int} {X S : Nat → Int} {τ : Nat → ClassId} : va_repl (stW ad R τ ++ txW ta X S τ) ([0, 1, 2, 3, 4, 5, 6, 7, 8, 9, 10, 11, 12, 13, 14, 15, 16, 17, 18, 19, 20].zip (stW ad RR τ)) = stW ad RR τ ++ txW ta X S τ := by
  have h := repl_front (stW ad RR τ) (stW ad R τ) (txW ta X S τ) [] rfl
  rw [show (stW ad RR τ).length = 21 from rfl] at h
  exact h

theorem cd_X2_forget : cd yX2_forget 0 := by decide +kernel
theorem in_X2_forget_X2 : ∀ w ∈ wsX20, w ∈ wsX2_forget := by decide +kernel
set_option maxHeartbeats 1000000 in
set_option maxRecDepth 100000 in
theorem c_X2_forget (l : Launch) (g : va_G) (τ : Nat → ClassId) (me : Nat → Nat) (n o : Int) (rg : Nat → Option Nat) (b : Nat) (vs : List Value) (hn : 0 ≤ n ∧ n ≤ 14) (ho : 0 ≤ o ∧ o < 14)  : Met l yX2_forget wsX2_forget { frames := 0, cells := 0, slots := 0, locals := 0 } (va_Pc [Value.ref (me 0)] (rwW g τ (meW me n o rg τ ++ [(b, .inr (6, vs))]))) (rwQ g (fun v w => v = none ∧ w = meW me 0 o rg τ ++ [(b, .inr (6, vs))]) (inW (meW me n o rg τ ++ [(b, .inr (6, vs))]))) 0 0 (inW (meW me n o rg τ ++ [(b, .inr (6, vs))])) := by
  refine rwMet (cc := cX2_forget) (maxL := 1) (ret := none) (lv := [(0, Value.ref (me 0))]) (by decide) rfl (Nat.le_of_ble_eq_true rfl) rfl ?_
  intro p e s m below meth c hx hb hr hml hts hown hlocks A H hP hD hS hK ls hl
  refine lv_aload_n hx hb dX2_forget_0 rfl (lv_at hl 0 rfl) ?_
  refine lv_iconst (v := iI 0) hx hb dX2_forget_1 (by decide) ?_
  refine va_put (D := g) (ci := 2) (v := Value.int (iI 0)) (ty := .int) (C := RX2) (T := TX2) (N := 3) hx hb hts in_X2_forget_X2 tyX2 tyX2_ok nmX2 hown hK.1 hP hD hS 0 (rfl) rfl 0 (by decide) (hts _ (List.mem_of_getElem? (i := 1) rfl) : (Cond.fieldLink RX2 18 "CordSeals$Memory" "count" "I").before _ s = true) (fun _ h9 => h9) rfl (by decide +kernel) rfl rfl (Nat.le_of_ble_eq_true rfl) dX2_forget_2 (fun H locs hP hD hS => ?_)
  have hP : va_P g vwCl (meW me 0 o rg τ ++ [(b, .inr (6, vs))]) H := hP
  have hD : va_D A (meW me 0 o rg τ ++ [(b, .inr (6, vs))]) := hD
  exact rw_vret hx hb hr hlocks hP hS (⟨rfl, rfl⟩) dX2_forget_5

theorem cd_X2_remember : cd yX2_remember 1 := by decide +kernel
theorem in_X2_remember_X2 : ∀ w ∈ wsX20, w ∈ wsX2_remember := by decide +kernel
set_option maxHeartbeats 1000000 in
set_option maxRecDepth 100000 in
theorem c_X2_remember (l : Launch) (g : va_G) (τ : Nat → ClassId) (me : Nat → Nat) (n o : Int) (rg : Nat → Option Nat) (b : Nat) (vs : List Value) (hn : 0 ≤ n ∧ n ≤ 14) (ho : 0 ≤ o ∧ o < 14) (sp : Nat) (hsp : rg ((o + n) % 14).toNat = some sp)  : Met l yX2_remember wsX2_remember { frames := 0, cells := 0, slots := 0, locals := 0 } (va_Pc [Value.ref (me 0), Value.ref b] (rwW g τ (meW me n o rg τ ++ [(b, .inr (6, vs))]))) (rwQ g (fun v w => v = some (Value.ref sp) ∧ w = meW me (if n < 14 then n + 1 else n) (if n < 14 then o else (o + 1) % 14) (va_up rg ((o + n) % 14).toNat (some b)) τ ++ [(b, .inr (6, vs))]) (inW (meW me n o rg τ ++ [(b, .inr (6, vs))]))) 0 0 (inW (meW me n o rg τ ++ [(b, .inr (6, vs))])) := by
  refine rwMet (cc := cX2_remember) (maxL := 4) (ret := (some (.object "CordSeals$State"))) (lv := [(0, Value.ref (me 0)), (1, Value.ref b)]) (by decide) rfl (Nat.le_of_ble_eq_true rfl) rfl ?_
  intro p e s m below meth c hx hb hr hml hts hown hlocks A H hP hD hS hK ls hl
  refine lv_aload_n hx hb dX2_remember_0 rfl (lv_at hl 0 rfl) ?_
  refine va_get (D := g) (ci := 2) (v := Value.int (iI o)) (C := RX2) (T := TX2) (N := 3) hx hb hts in_X2_remember_X2 hown hK.1 hP 0 (rfl) rfl 1 (by decide) (hts _ (List.mem_of_getElem? (i := 1) rfl) : (Cond.fieldLink RX2 22 "CordSeals$Memory" "oldest" "I").before _ s = true) (fun _ h9 => h9) rfl dX2_remember_1 ?_
  refine lv_aload_n hx hb dX2_remember_4 rfl (lv_at hl 0 rfl) ?_
  refine va_get (D := g) (ci := 2) (v := Value.int (iI n)) (C := RX2) (T := TX2) (N := 3) hx hb hts in_X2_remember_X2 hown hK.1 hP 0 (rfl) rfl 0 (by decide) (hts _ (List.mem_of_getElem? (i := 2) rfl) : (Cond.fieldLink RX2 18 "CordSeals$Memory" "count" "I").before _ s = true) (fun _ h9 => h9) rfl dX2_remember_5 ?_
  refine zi_add hx hb dX2_remember_8 ?_
  refine lv_bipush (v := iI 14) hx hb dX2_remember_9 (by decide) ?_
  refine zi_rem hx hb ⟨by omega, by omega⟩ ⟨by decide, by decide⟩ dX2_remember_11 ?_
  refine lv_istore_n (lv' := [(2, Value.int (iI ((o + n) % 14))), (0, Value.ref (me 0)), (1, Value.ref b)]) hx hb dX2_remember_12 rfl hl (by decide) rfl (fun ls hl => ?_)
  refine lv_aload_n hx hb dX2_remember_13 rfl (lv_at hl 1 rfl) ?_
  refine va_get (D := g) (ci := 2) (v := Value.ref (me 1)) (C := RX2) (T := TX2) (N := 3) hx hb hts in_X2_remember_X2 hown hK.1 hP 0 (rfl) rfl 2 (by decide) (hts _ (List.mem_of_getElem? (i := 3) rfl) : (Cond.fieldLink RX2 11 "CordSeals$Memory" "ring" "[LCordSeals$State;").before _ s = true) (fun _ h9 => h9) rfl dX2_remember_14 ?_
  refine lv_iload_n hx hb dX2_remember_17 rfl (lv_at hl 0 rfl) ?_
  refine zq_ald hx hb hK hP 1 4 (C := RX6) (f := rg) (rfl) rfl (((o + n) % 14).toNat) (by omega) (by omega) (by decide) (hsp) dX2_remember_18 ?_
  refine lv_astore_n (lv' := [(3, Value.ref sp), (2, Value.int (iI ((o + n) % 14))), (0, Value.ref (me 0)), (1, Value.ref b)]) hx hb dX2_remember_19 rfl hl (by decide) rfl (fun ls hl => ?_)
  refine lv_aload_n hx hb dX2_remember_20 rfl (lv_at hl 2 rfl) ?_
  refine va_get (D := g) (ci := 2) (v := Value.ref (me 1)) (C := RX2) (T := TX2) (N := 3) hx hb hts in_X2_remember_X2 hown hK.1 hP 0 (rfl) rfl 2 (by decide) (hts _ (List.mem_of_getElem? (i := 3) rfl) : (Cond.fieldLink RX2 11 "CordSeals$Memory" "ring" "[LCordSeals$State;").before _ s = true) (fun _ h9 => h9) rfl dX2_remember_21 ?_
  refine lv_iload_n hx hb dX2_remember_24 rfl (lv_at hl 1 rfl) ?_
  refine lv_aload_n hx hb dX2_remember_25 rfl (lv_at hl 3 rfl) ?_
  refine zq_ast hx hb hK hP hD hS 1 2 (f := rg) rfl rfl (((o + n) % 14).toNat) (by omega) (by omega) (by decide) dX2_remember_26 (wo := meW me n o (va_up rg (((o + n) % 14).toNat) (some b)) τ ++ [(b, .inr (6, vs))]) rfl (fun H locs hP hD hS => ?_)
  refine lv_aload_n hx hb dX2_remember_27 rfl (lv_at hl 2 rfl) ?_
  refine va_get (D := g) (ci := 2) (v := Value.int (iI n)) (C := RX2) (T := TX2) (N := 3) hx hb hts in_X2_remember_X2 hown hK.1 hP 0 (rfl) rfl 0 (by decide) (hts _ (List.mem_of_getElem? (i := 2) rfl) : (Cond.fieldLink RX2 18 "CordSeals$Memory" "count" "I").before _ s = true) (fun _ h9 => h9) rfl dX2_remember_28 ?_
  refine lv_bipush (v := iI 14) hx hb dX2_remember_31 (by decide) ?_
  refine zi_icmp_ge (tgt := 49) hx hb ⟨by omega, by omega⟩ ⟨by decide, by decide⟩ dX2_remember_33 (by decide) (fun c_1 => ?_) (fun c_1 => ?_)
  · have _ := c_1
    refine lv_aload_n hx hb dX2_remember_49 rfl (lv_at hl 2 rfl) ?_
    refine lv_aload_n hx hb dX2_remember_50 rfl (lv_at hl 2 rfl) ?_
    refine va_get (D := g) (ci := 2) (v := Value.int (iI o)) (C := RX2) (T := TX2) (N := 3) hx hb hts in_X2_remember_X2 hown hK.1 hP 0 (rfl) rfl 1 (by decide) (hts _ (List.mem_of_getElem? (i := 1) rfl) : (Cond.fieldLink RX2 22 "CordSeals$Memory" "oldest" "I").before _ s = true) (fun _ h9 => h9) rfl dX2_remember_51 ?_
    refine lv_iconst (v := iI 1) hx hb dX2_remember_54 (by decide) ?_
    refine zi_add hx hb dX2_remember_55 ?_
    refine lv_bipush (v := iI 14) hx hb dX2_remember_56 (by decide) ?_
    refine zi_rem hx hb ⟨by omega, by omega⟩ ⟨by decide, by decide⟩ dX2_remember_58 ?_
    refine va_put (D := g) (ci := 2) (v := Value.int (iI ((o + 1) % 14))) (ty := .int) (C := RX2) (T := TX2) (N := 3) hx hb hts in_X2_remember_X2 tyX2 tyX2_ok nmX2 hown hK.1 hP hD hS 0 (rfl) rfl 1 (by decide) (hts _ (List.mem_of_getElem? (i := 1) rfl) : (Cond.fieldLink RX2 22 "CordSeals$Memory" "oldest" "I").before _ s = true) (fun _ h9 => h9) rfl (by decide +kernel) rfl rfl (Nat.le_of_ble_eq_true rfl) dX2_remember_59 (fun H locs hP hD hS => ?_)
    have hP : va_P g vwCl (meW me n ((o + 1) % 14) (va_up rg (((o + n) % 14).toNat) (some b)) τ ++ [(b, .inr (6, vs))]) H := hP
    have hD : va_D A (meW me n ((o + 1) % 14) (va_up rg (((o + n) % 14).toNat) (some b)) τ ++ [(b, .inr (6, vs))]) := hD
    refine lv_aload_n hx hb dX2_remember_62 rfl (lv_at hl 0 rfl) ?_
    exact rw_aret hx hb hr hlocks hP hS (⟨rfl, by first | rw [if_pos (by assumption), if_pos (by assumption)] | rw [if_neg (by omega), if_neg (by omega)]⟩) dX2_remember_63
  · have _ := c_1
    refine lv_aload_n hx hb dX2_remember_36 rfl (lv_at hl 2 rfl) ?_
    refine lv_dup hx hb dX2_remember_37 rfl ?_
    refine va_get (D := g) (ci := 2) (v := Value.int (iI n)) (C := RX2) (T := TX2) (N := 3) hx hb hts in_X2_remember_X2 hown hK.1 hP 0 (rfl) rfl 0 (by decide) (hts _ (List.mem_of_getElem? (i := 2) rfl) : (Cond.fieldLink RX2 18 "CordSeals$Memory" "count" "I").before _ s = true) (fun _ h9 => h9) rfl dX2_remember_38 ?_
    refine lv_iconst (v := iI 1) hx hb dX2_remember_41 (by decide) ?_
    refine zi_add hx hb dX2_remember_42 ?_
    refine va_put (D := g) (ci := 2) (v := Value.int (iI (n + 1))) (ty := .int) (C := RX2) (T := TX2) (N := 3) hx hb hts in_X2_remember_X2 tyX2 tyX2_ok nmX2 hown hK.1 hP hD hS 0 (rfl) rfl 0 (by decide) (hts _ (List.mem_of_getElem? (i := 2) rfl) : (Cond.fieldLink RX2 18 "CordSeals$Memory" "count" "I").before _ s = true) (fun _ h9 => h9) rfl (by decide +kernel) rfl rfl (Nat.le_of_ble_eq_true rfl) dX2_remember_43 (fun H locs hP hD hS => ?_)
    have hP : va_P g vwCl (meW me (n + 1) o (va_up rg (((o + n) % 14).toNat) (some b)) τ ++ [(b, .inr (6, vs))]) H := hP
    have hD : va_D A (meW me (n + 1) o (va_up rg (((o + n) % 14).toNat) (some b)) τ ++ [(b, .inr (6, vs))]) := hD
    refine lv_goto (tgt := 62) hx hb dX2_remember_46 (by decide) ?_
    refine lv_aload_n hx hb dX2_remember_62 rfl (lv_at hl 0 rfl) ?_
    exact rw_aret hx hb hr hlocks hP hS (⟨rfl, by first | rw [if_pos (by assumption), if_pos (by assumption)] | rw [if_neg (by omega), if_neg (by omega)]⟩) dX2_remember_63

theorem cd_X2_recall : cd yX2_recall 1 := by decide +kernel
theorem in_X2_recall_X2 : ∀ w ∈ wsX20, w ∈ wsX2_recall := by decide +kernel
set_option maxHeartbeats 1000000 in
set_option maxRecDepth 100000 in
theorem c_X2_recall (l : Launch) (g : va_G) (τ : Nat → ClassId) (me : Nat → Nat) (n o : Int) (rg : Nat → Option Nat) (b : Nat) (vs : List Value) (hn : 0 ≤ n ∧ n ≤ 14) (ho : 0 ≤ o ∧ o < 14) (sp : Nat) (hsp : 0 < n → rg ((o + (n - 1)) % 14).toNat = some sp)  : Met l yX2_recall wsX2_recall { frames := 0, cells := 0, slots := 0, locals := 0 } (va_Pc [Value.ref (me 0), Value.ref b] (rwW g τ (meW me n o rg τ ++ [(b, .inr (6, vs))]))) (rwQ g (fun v w => v = some (Value.ref (if n = 0 then b else sp)) ∧ w = (if n = 0 then meW me n o rg τ else meW me (n - 1) o (va_up rg ((o + (n - 1)) % 14).toNat (some b)) τ) ++ [(b, .inr (6, vs))]) (inW (meW me n o rg τ ++ [(b, .inr (6, vs))]))) 0 0 (inW (meW me n o rg τ ++ [(b, .inr (6, vs))])) := by
  refine rwMet (cc := cX2_recall) (maxL := 4) (ret := (some (.object "CordSeals$State"))) (lv := [(0, Value.ref (me 0)), (1, Value.ref b)]) (by decide) rfl (Nat.le_of_ble_eq_true rfl) rfl ?_
  intro p e s m below meth c hx hb hr hml hts hown hlocks A H hP hD hS hK ls hl
  refine lv_aload_n hx hb dX2_recall_0 rfl (lv_at hl 0 rfl) ?_
  refine va_get (D := g) (ci := 2) (v := Value.int (iI n)) (C := RX2) (T := TX2) (N := 3) hx hb hts in_X2_recall_X2 hown hK.1 hP 0 (rfl) rfl 0 (by decide) (hts _ (List.mem_of_getElem? (i := 1) rfl) : (Cond.fieldLink RX2 18 "CordSeals$Memory" "count" "I").before _ s = true) (fun _ h9 => h9) rfl dX2_recall_1 ?_
  refine zi_if_ne (tgt := 9) hx hb ⟨by omega, by omega⟩ dX2_recall_4 (by decide) (fun c_1 => ?_) (fun c_1 => ?_)
  · have _ := c_1
    refine lv_aload_n hx hb dX2_recall_9 rfl (lv_at hl 0 rfl) ?_
    refine lv_dup hx hb dX2_recall_10 rfl ?_
    refine va_get (D := g) (ci := 2) (v := Value.int (iI n)) (C := RX2) (T := TX2) (N := 3) hx hb hts in_X2_recall_X2 hown hK.1 hP 0 (rfl) rfl 0 (by decide) (hts _ (List.mem_of_getElem? (i := 1) rfl) : (Cond.fieldLink RX2 18 "CordSeals$Memory" "count" "I").before _ s = true) (fun _ h9 => h9) rfl dX2_recall_11 ?_
    refine lv_iconst (v := iI 1) hx hb dX2_recall_14 (by decide) ?_
    refine zi_sub hx hb dX2_recall_15 ?_
    refine va_put (D := g) (ci := 2) (v := Value.int (iI (n - 1))) (ty := .int) (C := RX2) (T := TX2) (N := 3) hx hb hts in_X2_recall_X2 tyX2 tyX2_ok nmX2 hown hK.1 hP hD hS 0 (rfl) rfl 0 (by decide) (hts _ (List.mem_of_getElem? (i := 1) rfl) : (Cond.fieldLink RX2 18 "CordSeals$Memory" "count" "I").before _ s = true) (fun _ h9 => h9) rfl (by decide +kernel) rfl rfl (Nat.le_of_ble_eq_true rfl) dX2_recall_16 (fun H locs hP hD hS => ?_)
    have hP : va_P g vwCl (meW me (n - 1) o rg τ ++ [(b, .inr (6, vs))]) H := hP
    have hD : va_D A (meW me (n - 1) o rg τ ++ [(b, .inr (6, vs))]) := hD
    refine lv_aload_n hx hb dX2_recall_19 rfl (lv_at hl 0 rfl) ?_
    refine va_get (D := g) (ci := 2) (v := Value.int (iI o)) (C := RX2) (T := TX2) (N := 3) hx hb hts in_X2_recall_X2 hown hK.1 hP 0 (rfl) rfl 1 (by decide) (hts _ (List.mem_of_getElem? (i := 2) rfl) : (Cond.fieldLink RX2 22 "CordSeals$Memory" "oldest" "I").before _ s = true) (fun _ h9 => h9) rfl dX2_recall_20 ?_
    refine lv_aload_n hx hb dX2_recall_23 rfl (lv_at hl 0 rfl) ?_
    refine va_get (D := g) (ci := 2) (v := Value.int (iI (n - 1))) (C := RX2) (T := TX2) (N := 3) hx hb hts in_X2_recall_X2 hown hK.1 hP 0 (rfl) rfl 0 (by decide) (hts _ (List.mem_of_getElem? (i := 1) rfl) : (Cond.fieldLink RX2 18 "CordSeals$Memory" "count" "I").before _ s = true) (fun _ h9 => h9) rfl dX2_recall_24 ?_
    refine zi_add hx hb dX2_recall_27 ?_
    refine lv_bipush (v := iI 14) hx hb dX2_recall_28 (by decide) ?_
    refine zi_rem hx hb ⟨by omega, by omega⟩ ⟨by decide, by decide⟩ dX2_recall_30 ?_
    refine lv_istore_n (lv' := [(2, Value.int (iI ((o + (n - 1)) % 14))), (0, Value.ref (me 0)), (1, Value.ref b)]) hx hb dX2_recall_31 rfl hl (by decide) rfl (fun ls hl => ?_)
    refine lv_aload_n hx hb dX2_recall_32 rfl (lv_at hl 1 rfl) ?_
    refine va_get (D := g) (ci := 2) (v := Value.ref (me 1)) (C := RX2) (T := TX2) (N := 3) hx hb hts in_X2_recall_X2 hown hK.1 hP 0 (rfl) rfl 2 (by decide) (hts _ (List.mem_of_getElem? (i := 3) rfl) : (Cond.fieldLink RX2 11 "CordSeals$Memory" "ring" "[LCordSeals$State;").before _ s = true) (fun _ h9 => h9) rfl dX2_recall_33 ?_
    refine lv_iload_n hx hb dX2_recall_36 rfl (lv_at hl 0 rfl) ?_
    refine zq_ald hx hb hK hP 1 4 (C := RX6) (f := rg) (rfl) rfl (((o + (n - 1)) % 14).toNat) (by omega) (by omega) (by decide) (hsp (by omega)) dX2_recall_37 ?_
    refine lv_astore_n (lv' := [(3, Value.ref sp), (2, Value.int (iI ((o + (n - 1)) % 14))), (0, Value.ref (me 0)), (1, Value.ref b)]) hx hb dX2_recall_38 rfl hl (by decide) rfl (fun ls hl => ?_)
    refine lv_aload_n hx hb dX2_recall_39 rfl (lv_at hl 2 rfl) ?_
    refine va_get (D := g) (ci := 2) (v := Value.ref (me 1)) (C := RX2) (T := TX2) (N := 3) hx hb hts in_X2_recall_X2 hown hK.1 hP 0 (rfl) rfl 2 (by decide) (hts _ (List.mem_of_getElem? (i := 3) rfl) : (Cond.fieldLink RX2 11 "CordSeals$Memory" "ring" "[LCordSeals$State;").before _ s = true) (fun _ h9 => h9) rfl dX2_recall_40 ?_
    refine lv_iload_n hx hb dX2_recall_43 rfl (lv_at hl 1 rfl) ?_
    refine lv_aload_n hx hb dX2_recall_44 rfl (lv_at hl 3 rfl) ?_
    refine zq_ast hx hb hK hP hD hS 1 2 (f := rg) rfl rfl (((o + (n - 1)) % 14).toNat) (by omega) (by omega) (by decide) dX2_recall_45 (wo := meW me (n - 1) o (va_up rg (((o + (n - 1)) % 14).toNat) (some b)) τ ++ [(b, .inr (6, vs))]) rfl (fun H locs hP hD hS => ?_)
    refine lv_aload_n hx hb dX2_recall_46 rfl (lv_at hl 0 rfl) ?_
    exact rw_aret hx hb hr hlocks hP hS (⟨by rw [if_neg (by assumption)], by rw [if_neg (by assumption)]⟩) dX2_recall_47
  · have _ := c_1
    refine lv_aload_n hx hb dX2_recall_7 rfl (lv_at hl 1 rfl) ?_
    exact rw_aret hx hb hr hlocks hP hS (⟨by rw [if_pos (by assumption)], by rw [if_pos (by assumption)]⟩) dX2_recall_8

theorem cd_X7_makeEmpty : cd yX7_makeEmpty 0 := by decide +kernel
theorem in_X7_makeEmpty_X7 : ∀ w ∈ wsX70, w ∈ wsX7_makeEmpty := by decide +kernel
set_option maxHeartbeats 1000000 in
set_option maxRecDepth 100000 in
theorem c_X7_makeEmpty (l : Launch) (g : va_G) (τ : Nat → ClassId) (ta : Nat → Nat) (X S : Nat → Int) (hS2 : SB S) (hT : TL X)  : Met l yX7_makeEmpty wsX7_makeEmpty { frames := 0, cells := 0, slots := 0, locals := 0 } (va_Pc [Value.ref (ta 0)] (rwW g τ (txW ta X S τ))) (rwQ g (fun v w => v = some (Value.int (iI (X 0))) ∧ w = txW ta (updZ X 0 0) S τ) (inW (txW ta X S τ))) 0 0 (inW (txW ta X S τ)) := by
  refine rwMet (cc := cX7_makeEmpty) (maxL := 2) (ret := (some .int)) (lv := [(0, Value.ref (ta 0))]) (by decide) rfl (Nat.le_of_ble_eq_true rfl) rfl ?_
  intro p e s m below meth c hx hb hr hml hts hown hlocks A H hP hD hS hK ls hl
  refine lv_aload_n hx hb dX7_makeEmpty_0 rfl (lv_at hl 0 rfl) ?_
  refine va_get (D := g) (ci := 7) (v := Value.int (iI (X 0))) (C := RX7) (T := TX7) (N := 12) hx hb hts in_X7_makeEmpty_X7 hown hK.1 hP 0 (rfl) rfl 0 (by decide) (hts _ (List.mem_of_getElem? (i := 1) rfl) : (Cond.fieldLink RX7 15 "CordSeals$Text" "length" "I").before _ s = true) (fun _ h9 => h9) rfl dX7_makeEmpty_1 ?_
  refine lv_istore_n (lv' := [(1, Value.int (iI (X 0))), (0, Value.ref (ta 0))]) hx hb dX7_makeEmpty_4 rfl hl (by decide) rfl (fun ls hl => ?_)
  refine lv_aload_n hx hb dX7_makeEmpty_5 rfl (lv_at hl 1 rfl) ?_
  refine lv_iconst (v := iI 0) hx hb dX7_makeEmpty_6 (by decide) ?_
  refine va_put (D := g) (ci := 7) (v := Value.int (iI 0)) (ty := .int) (C := RX7) (T := TX7) (N := 12) hx hb hts in_X7_makeEmpty_X7 tyX7 tyX7_ok nmX7 hown hK.1 hP hD hS 0 (rfl) rfl 0 (by decide) (hts _ (List.mem_of_getElem? (i := 1) rfl) : (Cond.fieldLink RX7 15 "CordSeals$Text" "length" "I").before _ s = true) (fun _ h9 => h9) rfl (by decide +kernel) rfl rfl (Nat.le_of_ble_eq_true rfl) dX7_makeEmpty_7 (fun H locs hP hD hS => ?_)
  have hP : va_P g vwCl (txW ta (updZ X 0 0) S τ) H := hP
  have hD : va_D A (txW ta (updZ X 0 0) S τ) := hD
  refine lv_iload_n hx hb dX7_makeEmpty_10 rfl (lv_at hl 0 rfl) ?_
  exact rw_iret hx hb hr hlocks hP hS (⟨rfl, rfl⟩) dX7_makeEmpty_11

theorem cd_X7_add : cd yX7_add 1 := by decide +kernel
theorem in_X7_add_X7 : ∀ w ∈ wsX70, w ∈ wsX7_add := by decide +kernel
set_option maxHeartbeats 1000000 in
set_option maxRecDepth 100000 in
theorem c_X7_add (l : Launch) (g : va_G) (τ : Nat → ClassId) (ta : Nat → Nat) (X S : Nat → Int) (hS2 : SB S) (hT : TL X) (z : Int) (hz : 0 ≤ z ∧ z ≤ 255)  : Met l yX7_add wsX7_add { frames := 0, cells := 0, slots := 0, locals := 0 } (va_Pc [Value.ref (ta 0), Value.int (iI z)] (rwW g τ (txW ta X S τ))) (rwQ g (fun v w => v = some (Value.int (iI (tAdd X S z).1)) ∧ w = txW ta (tAdd X S z).2.1 (tAdd X S z).2.2 τ) (inW (txW ta X S τ))) 0 0 (inW (txW ta X S τ)) := by
  refine rwMet (cc := cX7_add) (maxL := 2) (ret := (some .int)) (lv := [(0, Value.ref (ta 0)), (1, Value.int (iI z))]) (by decide) rfl (Nat.le_of_ble_eq_true rfl) rfl ?_
  intro p e s m below meth c hx hb hr hml hts hown hlocks A H hP hD hS hK ls hl
  refine lv_aload_n hx hb dX7_add_0 rfl (lv_at hl 0 rfl) ?_
  refine va_get (D := g) (ci := 7) (v := Value.int (iI (X 0))) (C := RX7) (T := TX7) (N := 12) hx hb hts in_X7_add_X7 hown hK.1 hP 0 (rfl) rfl 0 (by decide) (hts _ (List.mem_of_getElem? (i := 1) rfl) : (Cond.fieldLink RX7 15 "CordSeals$Text" "length" "I").before _ s = true) (fun _ h9 => h9) rfl dX7_add_1 ?_
  refine lv_bipush (v := iI 120) hx hb dX7_add_4 (by decide) ?_
  refine zi_icmp_ge (tgt := 29) hx hb ⟨by omega, by omega⟩ ⟨by decide, by decide⟩ dX7_add_6 (by decide) (fun c_1 => ?_) (fun c_1 => ?_)
  · have _ := c_1
    refine lv_aload_n hx hb dX7_add_29 rfl (lv_at hl 0 rfl) ?_
    refine va_get (D := g) (ci := 7) (v := Value.int (iI (X 0))) (C := RX7) (T := TX7) (N := 12) hx hb hts in_X7_add_X7 hown hK.1 hP 0 (rfl) rfl 0 (by decide) (hts _ (List.mem_of_getElem? (i := 1) rfl) : (Cond.fieldLink RX7 15 "CordSeals$Text" "length" "I").before _ s = true) (fun _ h9 => h9) rfl dX7_add_30 ?_
    exact rw_iret hx hb hr hlocks hP hS (by rw [tAdd, if_neg (by omega)]; exact ⟨rfl, rfl⟩) dX7_add_33
  · have _ := c_1
    refine lv_aload_n hx hb dX7_add_9 rfl (lv_at hl 0 rfl) ?_
    refine va_get (D := g) (ci := 7) (v := Value.ref (ta 1)) (C := RX7) (T := TX7) (N := 12) hx hb hts in_X7_add_X7 hown hK.1 hP 0 (rfl) rfl 1 (by decide) (hts _ (List.mem_of_getElem? (i := 2) rfl) : (Cond.fieldLink RX7 9 "CordSeals$Text" "signs" "[C").before _ s = true) (fun _ h9 => h9) rfl dX7_add_10 ?_
    refine lv_aload_n hx hb dX7_add_13 rfl (lv_at hl 0 rfl) ?_
    refine va_get (D := g) (ci := 7) (v := Value.int (iI (X 0))) (C := RX7) (T := TX7) (N := 12) hx hb hts in_X7_add_X7 hown hK.1 hP 0 (rfl) rfl 0 (by decide) (hts _ (List.mem_of_getElem? (i := 1) rfl) : (Cond.fieldLink RX7 15 "CordSeals$Text" "length" "I").before _ s = true) (fun _ h9 => h9) rfl dX7_add_14 ?_
    refine lv_iload_n hx hb dX7_add_17 rfl (lv_at hl 1 rfl) ?_
    refine zc_ast hx hb hK hP hD hS 1 (f := S) (rfl) ((X 0).toNat) (by omega) (by omega) (by decide) (⟨by omega, by omega⟩) dX7_add_18 (wo := txW ta X (updZ S ((X 0).toNat) z) τ) rfl (fun H locs hP hD hS => ?_)
    refine lv_aload_n hx hb dX7_add_19 rfl (lv_at hl 0 rfl) ?_
    refine lv_dup hx hb dX7_add_20 rfl ?_
    refine va_get (D := g) (ci := 7) (v := Value.int (iI (X 0))) (C := RX7) (T := TX7) (N := 12) hx hb hts in_X7_add_X7 hown hK.1 hP 0 (rfl) rfl 0 (by decide) (hts _ (List.mem_of_getElem? (i := 1) rfl) : (Cond.fieldLink RX7 15 "CordSeals$Text" "length" "I").before _ s = true) (fun _ h9 => h9) rfl dX7_add_21 ?_
    refine lv_iconst (v := iI 1) hx hb dX7_add_24 (by decide) ?_
    refine zi_add hx hb dX7_add_25 ?_
    refine va_put (D := g) (ci := 7) (v := Value.int (iI ((X 0) + 1))) (ty := .int) (C := RX7) (T := TX7) (N := 12) hx hb hts in_X7_add_X7 tyX7 tyX7_ok nmX7 hown hK.1 hP hD hS 0 (rfl) rfl 0 (by decide) (hts _ (List.mem_of_getElem? (i := 1) rfl) : (Cond.fieldLink RX7 15 "CordSeals$Text" "length" "I").before _ s = true) (fun _ h9 => h9) rfl (by decide +kernel) rfl rfl (Nat.le_of_ble_eq_true rfl) dX7_add_26 (fun H locs hP hD hS => ?_)
    have hP : va_P g vwCl (txW ta (updZ X 0 ((X 0) + 1)) (updZ S ((X 0).toNat) z) τ) H := hP
    have hD : va_D A (txW ta (updZ X 0 ((X 0) + 1)) (updZ S ((X 0).toNat) z) τ) := hD
    refine lv_aload_n hx hb dX7_add_29 rfl (lv_at hl 0 rfl) ?_
    refine va_get (D := g) (ci := 7) (v := Value.int (iI ((X 0) + 1))) (C := RX7) (T := TX7) (N := 12) hx hb hts in_X7_add_X7 hown hK.1 hP 0 (rfl) rfl 0 (by decide) (hts _ (List.mem_of_getElem? (i := 1) rfl) : (Cond.fieldLink RX7 15 "CordSeals$Text" "length" "I").before _ s = true) (fun _ h9 => h9) rfl dX7_add_30 ?_
    exact rw_iret hx hb hr hlocks hP hS (by rw [tAdd, if_pos (by omega)]; exact ⟨rfl, rfl⟩) dX7_add_33

theorem cd_X6_enter : cd yX6_enter 1 := by decide +kernel
theorem in_X6_enter_X7 : ∀ w ∈ wsX70, w ∈ wsX6_enter := by decide +kernel
set_option maxHeartbeats 1000000 in
set_option maxRecDepth 100000 in
theorem c_X6_enter (l : Launch) (g : va_G) (τ : Nat → ClassId) (ad ta : Nat → Nat) (R : Nat → Nat → Int) (X S : Nat → Int) (hI : SI R) (hX : ∀ k, -2147483648 ≤ X k ∧ X k < 2147483648)  : Met l yX6_enter wsX6_enter { frames := 3, cells := 0, slots := 0, locals := 67 } (va_Pc [Value.ref (ad 0), Value.ref (ta 0)] (rwW g τ (stW ad R τ ++ txW ta X S τ))) (rwQ g (fun v w => v = some (Value.int (iI (aEnter R X).1)) ∧ w = stW ad (aEnter R X).2 τ ++ txW ta X S τ) (inW (stW ad R τ ++ txW ta X S τ))) 0 0 (inW (stW ad R τ ++ txW ta X S τ)) := by
  have h4 := hX 4
  have h5 := hX 5
  have h6 := hX 6
  have h7 := hX 7
  have h8 := hX 8
  have h9 := hX 9
  have h10 := hX 10
  have h11 := hX 11
  refine rwMet (cc := cX6_enter) (maxL := 2) (ret := (some .int)) (lv := [(0, Value.ref (ad 0)), (1, Value.ref (ta 0))]) (by decide) rfl (Nat.le_of_ble_eq_true rfl) rfl ?_
  intro p e s m below meth c hx hb hr hml hts hown hlocks A H hP hD hS hK ls hl
  refine lv_aload_n hx hb dX6_enter_0 rfl (lv_at hl 1 rfl) ?_
  refine va_get (D := g) (ci := 7) (v := Value.int (iI (X 4))) (C := RX7) (T := TX7) (N := 12) hx hb hts in_X6_enter_X7 hown hK.1 hP 21 (rfl) rfl 4 (by decide) (hts _ (List.mem_of_getElem? (i := 1) rfl) : (Cond.fieldLink RX6 72 "CordSeals$Text" "kind" "I").before _ s = true) (fun _ h9 => h9) rfl dX6_enter_1 ?_
  by_cases k_1_98 : (X 4) = 98
  · refine zi_look (tgt := 121) (x := X 4) k_1_98 hx hb ⟨by decide, by decide⟩ (v := 98) dX6_enter_4 (by decide) (off := 117) (by decide +kernel) (by decide) ?_
    refine lv_aload_n hx hb dX6_enter_121 rfl (lv_at hl 0 rfl) ?_
    refine lv_aload_n hx hb dX6_enter_122 rfl (lv_at hl 1 rfl) ?_
    refine va_get (D := g) (ci := 7) (v := Value.int (iI (X 5))) (C := RX7) (T := TX7) (N := 12) hx hb hts in_X6_enter_X7 hown hK.1 hP 21 (rfl) rfl 5 (by decide) (hts _ (List.mem_of_getElem? (i := 4) rfl) : (Cond.fieldLink RX6 87 "CordSeals$Text" "number" "I").before _ s = true) (fun _ h9 => h9) rfl dX6_enter_123 ?_
    refine lv_iconst (v := iI 1) hx hb dX6_enter_126 (by decide) ?_
    refine lv_aload_n hx hb dX6_enter_127 rfl (lv_at hl 1 rfl) ?_
    refine va_get (D := g) (ci := 7) (v := Value.int (iI (X 8))) (C := RX7) (T := TX7) (N := 12) hx hb hts in_X6_enter_X7 hown hK.1 hP 21 (rfl) rfl 8 (by decide) (hts _ (List.mem_of_getElem? (i := 6) rfl) : (Cond.fieldLink RX6 100 "CordSeals$Text" "colour" "I").before _ s = true) (fun _ h9 => h9) rfl dX6_enter_128 ?_
    refine lv_aload_n hx hb dX6_enter_131 rfl (lv_at hl 1 rfl) ?_
    refine va_get (D := g) (ci := 7) (v := Value.int (iI (X 9))) (C := RX7) (T := TX7) (N := 12) hx hb hts in_X6_enter_X7 hown hK.1 hP 21 (rfl) rfl 9 (by decide) (hts _ (List.mem_of_getElem? (i := 7) rfl) : (Cond.fieldLink RX6 103 "CordSeals$Text" "bubbles" "I").before _ s = true) (fun _ h9 => h9) rfl dX6_enter_132 ?_
    refine lv_aload_n hx hb dX6_enter_135 rfl (lv_at hl 1 rfl) ?_
    refine va_get (D := g) (ci := 7) (v := Value.int (iI (X 10))) (C := RX7) (T := TX7) (N := 12) hx hb hts in_X6_enter_X7 hown hK.1 hP 21 (rfl) rfl 10 (by decide) (hts _ (List.mem_of_getElem? (i := 3) rfl) : (Cond.fieldLink RX6 80 "CordSeals$Text" "set" "I").before _ s = true) (fun _ h9 => h9) rfl dX6_enter_136 ?_
    refine rw_V (As := [Value.int (iI (X 5)), Value.int (iI 1), Value.int (iI (X 8)), Value.int (iI (X 9)), Value.int (iI (X 10))]) (rest := []) ⟨hx, hb, hml, hown, hts⟩ (c_X6_addSeal l g τ ad R hI (X 5) (by omega) 1 (by omega) (X 8) (by omega) (X 9) (by omega) (X 10) (by omega)) gX6_enter_X6_addSeal cd_X6_addSeal rfl rfl ⟨rfl, rfl⟩ ⟨Nat.le_of_ble_eq_true rfl, Nat.le_of_ble_eq_true rfl⟩ hK hP hD hS [0, 1, 2, 3, 4, 5, 6, 7, 8, 9, 10, 11, 12, 13, 14, 15, 16, 17, 18, 19, 20] (rfl) (by decide) 0 rfl rfl rfl rfl hl rfl (Nat.le_of_ble_eq_true rfl) dX6_enter_139 ⟨Nat.le_of_ble_eq_true rfl, Nat.le_of_ble_eq_true rfl⟩ (fun v w h => by rw [h.2]; exact f_stx ad ta _ _ _) (fun v w1 H locs hZ hP hD hS => ?_)
    obtain ⟨rfl, rfl⟩ := hZ
    rw [b_stx] at hP hD
    refine tl_some ?_
    exact rw_iret hx hb hr hlocks hP hS (by rw [aEnter, if_neg (by omega), if_neg (by omega), if_neg (by omega), if_neg (by omega), if_pos (by omega)]; exact ⟨rfl, rfl⟩) dX6_enter_142
  by_cases k_1_100 : (X 4) = 100
  · refine zi_look (tgt := 69) (x := X 4) k_1_100 hx hb ⟨by decide, by decide⟩ (v := 100) dX6_enter_4 (by decide) (off := 65) (by decide +kernel) (by decide) ?_
    refine lv_aload_n hx hb dX6_enter_69 rfl (lv_at hl 0 rfl) ?_
    refine lv_aload_n hx hb dX6_enter_70 rfl (lv_at hl 1 rfl) ?_
    refine va_get (D := g) (ci := 7) (v := Value.int (iI (X 5))) (C := RX7) (T := TX7) (N := 12) hx hb hts in_X6_enter_X7 hown hK.1 hP 21 (rfl) rfl 5 (by decide) (hts _ (List.mem_of_getElem? (i := 4) rfl) : (Cond.fieldLink RX6 87 "CordSeals$Text" "number" "I").before _ s = true) (fun _ h9 => h9) rfl dX6_enter_71 ?_
    refine lv_aload_n hx hb dX6_enter_74 rfl (lv_at hl 1 rfl) ?_
    refine va_get (D := g) (ci := 7) (v := Value.int (iI (X 6))) (C := RX7) (T := TX7) (N := 12) hx hb hts in_X6_enter_X7 hown hK.1 hP 21 (rfl) rfl 6 (by decide) (hts _ (List.mem_of_getElem? (i := 2) rfl) : (Cond.fieldLink RX6 77 "CordSeals$Text" "year" "I").before _ s = true) (fun _ h9 => h9) rfl dX6_enter_75 ?_
    refine lv_aload_n hx hb dX6_enter_78 rfl (lv_at hl 1 rfl) ?_
    refine va_get (D := g) (ci := 7) (v := Value.int (iI (X 7))) (C := RX7) (T := TX7) (N := 12) hx hb hts in_X6_enter_X7 hown hK.1 hP 21 (rfl) rfl 7 (by decide) (hts _ (List.mem_of_getElem? (i := 5) rfl) : (Cond.fieldLink RX6 90 "CordSeals$Text" "lastYear" "I").before _ s = true) (fun _ h9 => h9) rfl dX6_enter_79 ?_
    refine rw_V (As := [Value.int (iI (X 5)), Value.int (iI (X 6)), Value.int (iI (X 7))]) (rest := []) ⟨hx, hb, hml, hown, hts⟩ (c_X6_addDie l g τ ad R hI (X 5) (by omega) (X 6) (by omega) (X 7) (by omega)) gX6_enter_X6_addDie cd_X6_addDie rfl rfl ⟨rfl, rfl⟩ ⟨Nat.le_of_ble_eq_true rfl, Nat.le_of_ble_eq_true rfl⟩ hK hP hD hS [0, 1, 2, 3, 4, 5, 6, 7, 8, 9, 10, 11, 12, 13, 14, 15, 16, 17, 18, 19, 20] (rfl) (by decide) 0 rfl rfl rfl rfl hl rfl (Nat.le_of_ble_eq_true rfl) dX6_enter_82 ⟨Nat.le_of_ble_eq_true rfl, Nat.le_of_ble_eq_true rfl⟩ (fun v w h => by rw [h.2]; exact f_stx ad ta _ _ _) (fun v w1 H locs hZ hP hD hS => ?_)
    obtain ⟨rfl, rfl⟩ := hZ
    rw [b_stx] at hP hD
    refine tl_some ?_
    exact rw_iret hx hb hr hlocks hP hS (by rw [aEnter, if_neg (by omega), if_pos (by omega)]; exact ⟨rfl, rfl⟩) dX6_enter_85
  by_cases k_1_107 : (X 4) = 107
  · refine zi_look (tgt := 86) (x := X 4) k_1_107 hx hb ⟨by decide, by decide⟩ (v := 107) dX6_enter_4 (by decide) (off := 82) (by decide +kernel) (by decide) ?_
    refine lv_aload_n hx hb dX6_enter_86 rfl (lv_at hl 0 rfl) ?_
    refine lv_aload_n hx hb dX6_enter_87 rfl (lv_at hl 1 rfl) ?_
    refine va_get (D := g) (ci := 7) (v := Value.int (iI (X 5))) (C := RX7) (T := TX7) (N := 12) hx hb hts in_X6_enter_X7 hown hK.1 hP 21 (rfl) rfl 5 (by decide) (hts _ (List.mem_of_getElem? (i := 4) rfl) : (Cond.fieldLink RX6 87 "CordSeals$Text" "number" "I").before _ s = true) (fun _ h9 => h9) rfl dX6_enter_88 ?_
    refine lv_aload_n hx hb dX6_enter_91 rfl (lv_at hl 1 rfl) ?_
    refine va_get (D := g) (ci := 7) (v := Value.int (iI (X 6))) (C := RX7) (T := TX7) (N := 12) hx hb hts in_X6_enter_X7 hown hK.1 hP 21 (rfl) rfl 6 (by decide) (hts _ (List.mem_of_getElem? (i := 2) rfl) : (Cond.fieldLink RX6 77 "CordSeals$Text" "year" "I").before _ s = true) (fun _ h9 => h9) rfl dX6_enter_92 ?_
    refine rw_V (As := [Value.int (iI (X 5)), Value.int (iI (X 6))]) (rest := []) ⟨hx, hb, hml, hown, hts⟩ (c_X6_addCrack l g τ ad R hI (X 5) (by omega) (X 6) (by omega)) gX6_enter_X6_addCrack cd_X6_addCrack rfl rfl ⟨rfl, rfl⟩ ⟨Nat.le_of_ble_eq_true rfl, Nat.le_of_ble_eq_true rfl⟩ hK hP hD hS [0, 1, 2, 3, 4, 5, 6, 7, 8, 9, 10, 11, 12, 13, 14, 15, 16, 17, 18, 19, 20] (rfl) (by decide) 0 rfl rfl rfl rfl hl rfl (Nat.le_of_ble_eq_true rfl) dX6_enter_95 ⟨Nat.le_of_ble_eq_true rfl, Nat.le_of_ble_eq_true rfl⟩ (fun v w h => by rw [h.2]; exact f_stx ad ta _ _ _) (fun v w1 H locs hZ hP hD hS => ?_)
    obtain ⟨rfl, rfl⟩ := hZ
    rw [b_stx] at hP hD
    refine tl_some ?_
    exact rw_iret hx hb hr hlocks hP hS (by rw [aEnter, if_neg (by omega), if_neg (by omega), if_pos (by omega)]; exact ⟨rfl, rfl⟩) dX6_enter_98
  by_cases k_1_114 : (X 4) = 114
  · refine zi_look (tgt := 56) (x := X 4) k_1_114 hx hb ⟨by decide, by decide⟩ (v := 114) dX6_enter_4 (by decide) (off := 52) (by decide +kernel) (by decide) ?_
    refine lv_aload_n hx hb dX6_enter_56 rfl (lv_at hl 0 rfl) ?_
    refine lv_aload_n hx hb dX6_enter_57 rfl (lv_at hl 1 rfl) ?_
    refine va_get (D := g) (ci := 7) (v := Value.int (iI (X 6))) (C := RX7) (T := TX7) (N := 12) hx hb hts in_X6_enter_X7 hown hK.1 hP 21 (rfl) rfl 6 (by decide) (hts _ (List.mem_of_getElem? (i := 2) rfl) : (Cond.fieldLink RX6 77 "CordSeals$Text" "year" "I").before _ s = true) (fun _ h9 => h9) rfl dX6_enter_58 ?_
    refine lv_aload_n hx hb dX6_enter_61 rfl (lv_at hl 1 rfl) ?_
    refine va_get (D := g) (ci := 7) (v := Value.int (iI (X 10))) (C := RX7) (T := TX7) (N := 12) hx hb hts in_X6_enter_X7 hown hK.1 hP 21 (rfl) rfl 10 (by decide) (hts _ (List.mem_of_getElem? (i := 3) rfl) : (Cond.fieldLink RX6 80 "CordSeals$Text" "set" "I").before _ s = true) (fun _ h9 => h9) rfl dX6_enter_62 ?_
    refine rw_V (As := [Value.int (iI (X 6)), Value.int (iI (X 10))]) (rest := []) ⟨hx, hb, hml, hown, hts⟩ (c_X6_addReign l g τ ad R hI (X 6) (by omega) (X 10) (by omega)) gX6_enter_X6_addReign cd_X6_addReign rfl rfl ⟨rfl, rfl⟩ ⟨Nat.le_of_ble_eq_true rfl, Nat.le_of_ble_eq_true rfl⟩ hK hP hD hS [0, 1, 2, 3, 4, 5, 6, 7, 8, 9, 10, 11, 12, 13, 14, 15, 16, 17, 18, 19, 20] (rfl) (by decide) 0 rfl rfl rfl rfl hl rfl (Nat.le_of_ble_eq_true rfl) dX6_enter_65 ⟨Nat.le_of_ble_eq_true rfl, Nat.le_of_ble_eq_true rfl⟩ (fun v w h => by rw [h.2]; exact f_stx ad ta _ _ _) (fun v w1 H locs hZ hP hD hS => ?_)
    obtain ⟨rfl, rfl⟩ := hZ
    rw [b_stx] at hP hD
    refine tl_some ?_
    exact rw_iret hx hb hr hlocks hP hS (by rw [aEnter, if_pos (by omega)]; exact ⟨rfl, rfl⟩) dX6_enter_68
  by_cases k_1_119 : (X 4) = 119
  · refine zi_look (tgt := 99) (x := X 4) k_1_119 hx hb ⟨by decide, by decide⟩ (v := 119) dX6_enter_4 (by decide) (off := 95) (by decide +kernel) (by decide) ?_
    refine lv_aload_n hx hb dX6_enter_99 rfl (lv_at hl 0 rfl) ?_
    refine lv_aload_n hx hb dX6_enter_100 rfl (lv_at hl 1 rfl) ?_
    refine va_get (D := g) (ci := 7) (v := Value.int (iI (X 5))) (C := RX7) (T := TX7) (N := 12) hx hb hts in_X6_enter_X7 hown hK.1 hP 21 (rfl) rfl 5 (by decide) (hts _ (List.mem_of_getElem? (i := 4) rfl) : (Cond.fieldLink RX6 87 "CordSeals$Text" "number" "I").before _ s = true) (fun _ h9 => h9) rfl dX6_enter_101 ?_
    refine lv_iconst (v := iI 0) hx hb dX6_enter_104 (by decide) ?_
    refine lv_aload_n hx hb dX6_enter_105 rfl (lv_at hl 1 rfl) ?_
    refine va_get (D := g) (ci := 7) (v := Value.int (iI (X 8))) (C := RX7) (T := TX7) (N := 12) hx hb hts in_X6_enter_X7 hown hK.1 hP 21 (rfl) rfl 8 (by decide) (hts _ (List.mem_of_getElem? (i := 6) rfl) : (Cond.fieldLink RX6 100 "CordSeals$Text" "colour" "I").before _ s = true) (fun _ h9 => h9) rfl dX6_enter_106 ?_
    refine lv_aload_n hx hb dX6_enter_109 rfl (lv_at hl 1 rfl) ?_
    refine va_get (D := g) (ci := 7) (v := Value.int (iI (X 9))) (C := RX7) (T := TX7) (N := 12) hx hb hts in_X6_enter_X7 hown hK.1 hP 21 (rfl) rfl 9 (by decide) (hts _ (List.mem_of_getElem? (i := 7) rfl) : (Cond.fieldLink RX6 103 "CordSeals$Text" "bubbles" "I").before _ s = true) (fun _ h9 => h9) rfl dX6_enter_110 ?_
    refine lv_aload_n hx hb dX6_enter_113 rfl (lv_at hl 1 rfl) ?_
    refine va_get (D := g) (ci := 7) (v := Value.int (iI (X 10))) (C := RX7) (T := TX7) (N := 12) hx hb hts in_X6_enter_X7 hown hK.1 hP 21 (rfl) rfl 10 (by decide) (hts _ (List.mem_of_getElem? (i := 3) rfl) : (Cond.fieldLink RX6 80 "CordSeals$Text" "set" "I").before _ s = true) (fun _ h9 => h9) rfl dX6_enter_114 ?_
    refine rw_V (As := [Value.int (iI (X 5)), Value.int (iI 0), Value.int (iI (X 8)), Value.int (iI (X 9)), Value.int (iI (X 10))]) (rest := []) ⟨hx, hb, hml, hown, hts⟩ (c_X6_addSeal l g τ ad R hI (X 5) (by omega) 0 (by omega) (X 8) (by omega) (X 9) (by omega) (X 10) (by omega)) gX6_enter_X6_addSeal cd_X6_addSeal rfl rfl ⟨rfl, rfl⟩ ⟨Nat.le_of_ble_eq_true rfl, Nat.le_of_ble_eq_true rfl⟩ hK hP hD hS [0, 1, 2, 3, 4, 5, 6, 7, 8, 9, 10, 11, 12, 13, 14, 15, 16, 17, 18, 19, 20] (rfl) (by decide) 0 rfl rfl rfl rfl hl rfl (Nat.le_of_ble_eq_true rfl) dX6_enter_117 ⟨Nat.le_of_ble_eq_true rfl, Nat.le_of_ble_eq_true rfl⟩ (fun v w h => by rw [h.2]; exact f_stx ad ta _ _ _) (fun v w1 H locs hZ hP hD hS => ?_)
    obtain ⟨rfl, rfl⟩ := hZ
    rw [b_stx] at hP hD
    refine tl_some ?_
    exact rw_iret hx hb hr hlocks hP hS (by rw [aEnter, if_neg (by omega), if_neg (by omega), if_neg (by omega), if_pos (by omega)]; exact ⟨rfl, rfl⟩) dX6_enter_120
  refine zi_lookD (x := X 4) (tgt := 143) ⟨by omega, by omega⟩ hx hb dX6_enter_4 (by decide) (by simp only [Op.lookupswitch.offset_cons, if_neg (fun z : (98 : Int) = (X 4) => k_1_98 z.symm), if_neg (fun z : (100 : Int) = (X 4) => k_1_100 z.symm), if_neg (fun z : (107 : Int) = (X 4) => k_1_107 z.symm), if_neg (fun z : (114 : Int) = (X 4) => k_1_114 z.symm), if_neg (fun z : (119 : Int) = (X 4) => k_1_119 z.symm), Op.lookupswitch.offset_nil]) (by decide) ?_
  refine lv_aload_n hx hb dX6_enter_143 rfl (lv_at hl 0 rfl) ?_
  refine lv_aload_n hx hb dX6_enter_144 rfl (lv_at hl 1 rfl) ?_
  refine va_get (D := g) (ci := 7) (v := Value.int (iI (X 5))) (C := RX7) (T := TX7) (N := 12) hx hb hts in_X6_enter_X7 hown hK.1 hP 21 (rfl) rfl 5 (by decide) (hts _ (List.mem_of_getElem? (i := 4) rfl) : (Cond.fieldLink RX6 87 "CordSeals$Text" "number" "I").before _ s = true) (fun _ h9 => h9) rfl dX6_enter_145 ?_
  refine lv_aload_n hx hb dX6_enter_148 rfl (lv_at hl 1 rfl) ?_
  refine va_get (D := g) (ci := 7) (v := Value.int (iI (X 11))) (C := RX7) (T := TX7) (N := 12) hx hb hts in_X6_enter_X7 hown hK.1 hP 21 (rfl) rfl 11 (by decide) (hts _ (List.mem_of_getElem? (i := 8) rfl) : (Cond.fieldLink RX6 110 "CordSeals$Text" "hangsOn" "I").before _ s = true) (fun _ h9 => h9) rfl dX6_enter_149 ?_
  refine rw_V (As := [Value.int (iI (X 5)), Value.int (iI (X 11))]) (rest := []) ⟨hx, hb, hml, hown, hts⟩ (c_X6_hangOn l g τ ad R hI (X 5) (by omega) (X 11) (by omega)) gX6_enter_X6_hangOn cd_X6_hangOn rfl rfl ⟨rfl, rfl⟩ ⟨Nat.le_of_ble_eq_true rfl, Nat.le_of_ble_eq_true rfl⟩ hK hP hD hS [0, 1, 2, 3, 4, 5, 6, 7, 8, 9, 10, 11, 12, 13, 14, 15, 16, 17, 18, 19, 20] (rfl) (by decide) 0 rfl rfl rfl rfl hl rfl (Nat.le_of_ble_eq_true rfl) dX6_enter_152 ⟨Nat.le_of_ble_eq_true rfl, Nat.le_of_ble_eq_true rfl⟩ (fun v w h => by rw [h.2]; exact f_stx ad ta _ _ _) (fun v w1 H locs hZ hP hD hS => ?_)
  obtain ⟨rfl, rfl⟩ := hZ
  rw [b_stx] at hP hD
  refine tl_some ?_
  exact rw_iret hx hb hr hlocks hP hS (by rw [aEnter, if_neg (by omega), if_neg (by omega), if_neg (by omega), if_neg (by omega), if_neg (by omega)]; exact ⟨rfl, rfl⟩) dX6_enter_155
