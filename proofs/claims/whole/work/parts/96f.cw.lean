/-! the class, in one piece, held against the numbers of the reference -/
theorem pc10_01 (A0 A1 A2 A3 A4 A5 A6 A7 A8 A9 : va_W) : (A0 ++ (A1 ++ (A2 ++ (A3 ++ (A4 ++ (A5 ++ (A6 ++ (A7 ++ (A8 ++ A9))))))))).Perm ((A0 ++ A1) ++ (A2 ++ (A3 ++ (A4 ++ (A5 ++ (A6 ++ (A7 ++ (A8 ++ A9)))))))) := by
  have e : A0 ++ (A1 ++ (A2 ++ (A3 ++ (A4 ++ (A5 ++ (A6 ++ (A7 ++ (A8 ++ A9)))))))) = (A0 ++ A1) ++ (A2 ++ (A3 ++ (A4 ++ (A5 ++ (A6 ++ (A7 ++ (A8 ++ A9))))))) := by simp only [List.append_assoc]
  exact Eq.mp (congrArg (List.Perm (A0 ++ (A1 ++ (A2 ++ (A3 ++ (A4 ++ (A5 ++ (A6 ++ (A7 ++ (A8 ++ A9)))))))))) e) (List.Perm.refl _)
theorem pc10_014 (A0 A1 A2 A3 A4 A5 A6 A7 A8 A9 : va_W) : (A0 ++ (A1 ++ (A2 ++ (A3 ++ (A4 ++ (A5 ++ (A6 ++ (A7 ++ (A8 ++ A9))))))))).Perm ((A0 ++ (A1 ++ A4)) ++ (A2 ++ (A3 ++ (A5 ++ (A6 ++ (A7 ++ (A8 ++ A9))))))) := by
  have h := List.Perm.flatMap_right (fun i => ([A0, A1, A2, A3, A4, A5, A6, A7, A8, A9] : List va_W).getD i []) (show List.Perm [0, 1, 2, 3, 4, 5, 6, 7, 8, 9] [0, 1, 4, 2, 3, 5, 6, 7, 8, 9] by decide)
  simpa [List.append_assoc] using h
theorem pc10_0124 (A0 A1 A2 A3 A4 A5 A6 A7 A8 A9 : va_W) : (A0 ++ (A1 ++ (A2 ++ (A3 ++ (A4 ++ (A5 ++ (A6 ++ (A7 ++ (A8 ++ A9))))))))).Perm ((A0 ++ (A1 ++ (A2 ++ A4))) ++ (A3 ++ (A5 ++ (A6 ++ (A7 ++ (A8 ++ A9)))))) := by
  have h := List.Perm.flatMap_right (fun i => ([A0, A1, A2, A3, A4, A5, A6, A7, A8, A9] : List va_W).getD i []) (show List.Perm [0, 1, 2, 3, 4, 5, 6, 7, 8, 9] [0, 1, 2, 4, 3, 5, 6, 7, 8, 9] by decide)
  simpa [List.append_assoc] using h
theorem pc10_0123 (A0 A1 A2 A3 A4 A5 A6 A7 A8 A9 : va_W) : (A0 ++ (A1 ++ (A2 ++ (A3 ++ (A4 ++ (A5 ++ (A6 ++ (A7 ++ (A8 ++ A9))))))))).Perm ((A0 ++ (A1 ++ (A2 ++ A3))) ++ (A4 ++ (A5 ++ (A6 ++ (A7 ++ (A8 ++ A9)))))) := by
  have e : A0 ++ (A1 ++ (A2 ++ (A3 ++ (A4 ++ (A5 ++ (A6 ++ (A7 ++ (A8 ++ A9)))))))) = (A0 ++ (A1 ++ (A2 ++ A3))) ++ (A4 ++ (A5 ++ (A6 ++ (A7 ++ (A8 ++ A9))))) := by simp only [List.append_assoc]
  exact Eq.mp (congrArg (List.Perm (A0 ++ (A1 ++ (A2 ++ (A3 ++ (A4 ++ (A5 ++ (A6 ++ (A7 ++ (A8 ++ A9)))))))))) e) (List.Perm.refl _)
theorem pc10_01234 (A0 A1 A2 A3 A4 A5 A6 A7 A8 A9 : va_W) : (A0 ++ (A1 ++ (A2 ++ (A3 ++ (A4 ++ (A5 ++ (A6 ++ (A7 ++ (A8 ++ A9))))))))).Perm ((A0 ++ (A1 ++ (A2 ++ (A3 ++ A4)))) ++ (A5 ++ (A6 ++ (A7 ++ (A8 ++ A9))))) := by
  have e : A0 ++ (A1 ++ (A2 ++ (A3 ++ (A4 ++ (A5 ++ (A6 ++ (A7 ++ (A8 ++ A9)))))))) = (A0 ++ (A1 ++ (A2 ++ (A3 ++ A4)))) ++ (A5 ++ (A6 ++ (A7 ++ (A8 ++ A9)))) := by simp only [List.append_assoc]
  exact Eq.mp (congrArg (List.Perm (A0 ++ (A1 ++ (A2 ++ (A3 ++ (A4 ++ (A5 ++ (A6 ++ (A7 ++ (A8 ++ A9)))))))))) e) (List.Perm.refl _)
theorem pc10_013 (A0 A1 A2 A3 A4 A5 A6 A7 A8 A9 : va_W) : (A0 ++ (A1 ++ (A2 ++ (A3 ++ (A4 ++ (A5 ++ (A6 ++ (A7 ++ (A8 ++ A9))))))))).Perm ((A0 ++ (A1 ++ A3)) ++ (A2 ++ (A4 ++ (A5 ++ (A6 ++ (A7 ++ (A8 ++ A9))))))) := by
  have h := List.Perm.flatMap_right (fun i => ([A0, A1, A2, A3, A4, A5, A6, A7, A8, A9] : List va_W).getD i []) (show List.Perm [0, 1, 2, 3, 4, 5, 6, 7, 8, 9] [0, 1, 3, 2, 4, 5, 6, 7, 8, 9] by decide)
  simpa [List.append_assoc] using h
theorem pc10_05 (A0 A1 A2 A3 A4 A5 A6 A7 A8 A9 : va_W) : (A0 ++ (A1 ++ (A2 ++ (A3 ++ (A4 ++ (A5 ++ (A6 ++ (A7 ++ (A8 ++ A9))))))))).Perm ((A0 ++ A5) ++ (A1 ++ (A2 ++ (A3 ++ (A4 ++ (A6 ++ (A7 ++ (A8 ++ A9)))))))) := by
  have h := List.Perm.flatMap_right (fun i => ([A0, A1, A2, A3, A4, A5, A6, A7, A8, A9] : List va_W).getD i []) (show List.Perm [0, 1, 2, 3, 4, 5, 6, 7, 8, 9] [0, 5, 1, 2, 3, 4, 6, 7, 8, 9] by decide)
  simpa [List.append_assoc] using h
theorem pc10_01357 (A0 A1 A2 A3 A4 A5 A6 A7 A8 A9 : va_W) : (A0 ++ (A1 ++ (A2 ++ (A3 ++ (A4 ++ (A5 ++ (A6 ++ (A7 ++ (A8 ++ A9))))))))).Perm ((A0 ++ (A1 ++ (A3 ++ (A5 ++ A7)))) ++ (A2 ++ (A4 ++ (A6 ++ (A8 ++ A9))))) := by
  have h := List.Perm.flatMap_right (fun i => ([A0, A1, A2, A3, A4, A5, A6, A7, A8, A9] : List va_W).getD i []) (show List.Perm [0, 1, 2, 3, 4, 5, 6, 7, 8, 9] [0, 1, 3, 5, 7, 2, 4, 6, 8, 9] by decide)
  simpa [List.append_assoc] using h
theorem pc_act0 (A0 A1 A2 A3 A4 A5 A6 A7 P Y K : va_W) : (A0 ++ (A1 ++ (A2 ++ (A3 ++ (A4 ++ (A5 ++ (A6 ++ (A7 ++ ((P ++ Y) ++ K))))))))).Perm (A0 ++ (A2 ++ (P ++ (A3 ++ (A4 ++ (A5 ++ (A6 ++ (A7 ++ ((A1 ++ Y) ++ K))))))))) := by
  have h := List.Perm.flatMap_right (fun i => ([A0, A1, A2, A3, A4, A5, A6, A7, P, Y, K] : List va_W).getD i []) (show List.Perm [0, 1, 2, 3, 4, 5, 6, 7, 8, 9, 10] [0, 2, 8, 3, 4, 5, 6, 7, 1, 9, 10] by decide)
  simpa [List.append_assoc] using h
theorem pc_und0 (A0 A1 A2 A3 A4 A5 A6 A7 P Y K : va_W) : (A0 ++ (A1 ++ (A2 ++ (A3 ++ (A4 ++ (A5 ++ (A6 ++ (A7 ++ ((P ++ Y) ++ K))))))))).Perm (A0 ++ (P ++ (A2 ++ (A3 ++ (A4 ++ (A5 ++ (A6 ++ (A7 ++ ((A1 ++ Y) ++ K))))))))) := by
  have h := List.Perm.flatMap_right (fun i => ([A0, A1, A2, A3, A4, A5, A6, A7, P, Y, K] : List va_W).getD i []) (show List.Perm [0, 1, 2, 3, 4, 5, 6, 7, 8, 9, 10] [0, 8, 2, 3, 4, 5, 6, 7, 1, 9, 10] by decide)
  simpa [List.append_assoc] using h
theorem pc_sav0 (A0 A1 A2 A3 A4 A5 A6 A7 A8 P Y : va_W) : (A0 ++ (A1 ++ (A2 ++ (A3 ++ (A4 ++ (A5 ++ (A6 ++ (A7 ++ (A8 ++ (P ++ Y)))))))))).Perm ((A0 ++ (A1 ++ (P ++ (A6 ++ A7)))) ++ (A2 ++ (A3 ++ (A4 ++ (A5 ++ (A8 ++ Y)))))) := by
  have h := List.Perm.flatMap_right (fun i => ([A0, A1, A2, A3, A4, A5, A6, A7, A8, P, Y] : List va_W).getD i []) (show List.Perm [0, 1, 2, 3, 4, 5, 6, 7, 8, 9, 10] [0, 1, 9, 6, 7, 2, 3, 4, 5, 8, 10] by decide)
  simpa [List.append_assoc] using h
theorem pc_res0 (A0 A1 A2 A3 A4 A5 A6 A7 A8 P Y : va_W) : (A0 ++ (A1 ++ (A2 ++ (A3 ++ (A4 ++ (A5 ++ (A6 ++ (A7 ++ (A8 ++ (P ++ Y)))))))))).Perm ((A0 ++ (A1 ++ (P ++ (A3 ++ (A6 ++ A7))))) ++ (A2 ++ (A4 ++ (A5 ++ (A8 ++ Y))))) := by
  have h := List.Perm.flatMap_right (fun i => ([A0, A1, A2, A3, A4, A5, A6, A7, A8, P, Y] : List va_W).getD i []) (show List.Perm [0, 1, 2, 3, 4, 5, 6, 7, 8, 9, 10] [0, 1, 9, 3, 6, 7, 2, 4, 5, 8, 10] by decide)
  simpa [List.append_assoc] using h
theorem pc_act {A0 A1 A2 A3 A4 A5 A6 A7 K P Y r r2 : va_W} (h1 : r.Perm (P ++ Y)) (h2 : r2.Perm (A1 ++ Y)) : (A0 ++ (A1 ++ (A2 ++ (A3 ++ (A4 ++ (A5 ++ (A6 ++ (A7 ++ (r ++ K))))))))).Perm (A0 ++ (A2 ++ (P ++ (A3 ++ (A4 ++ (A5 ++ (A6 ++ (A7 ++ (r2 ++ K))))))))) :=
  (((((((((h1.append_right K).append_left _).append_left _).append_left _).append_left _).append_left _).append_left _).append_left _).append_left _).trans ((pc_act0 A0 A1 A2 A3 A4 A5 A6 A7 P Y K).trans (((((((((h2.symm.append_right K).append_left _).append_left _).append_left _).append_left _).append_left _).append_left _).append_left _).append_left _))
theorem pc_und {A0 A1 A2 A3 A4 A5 A6 A7 K P Y r r2 : va_W} (h1 : r.Perm (P ++ Y)) (h2 : r2.Perm (A1 ++ Y)) : (A0 ++ (A1 ++ (A2 ++ (A3 ++ (A4 ++ (A5 ++ (A6 ++ (A7 ++ (r ++ K))))))))).Perm (A0 ++ (P ++ (A2 ++ (A3 ++ (A4 ++ (A5 ++ (A6 ++ (A7 ++ (r2 ++ K))))))))) :=
  (((((((((h1.append_right K).append_left _).append_left _).append_left _).append_left _).append_left _).append_left _).append_left _).append_left _).trans ((pc_und0 A0 A1 A2 A3 A4 A5 A6 A7 P Y K).trans (((((((((h2.symm.append_right K).append_left _).append_left _).append_left _).append_left _).append_left _).append_left _).append_left _).append_left _))
theorem pc_sav {A0 A1 A2 A3 A4 A5 A6 A7 A8 P Y r : va_W} (h1 : r.Perm (P ++ Y)) : (A0 ++ (A1 ++ (A2 ++ (A3 ++ (A4 ++ (A5 ++ (A6 ++ (A7 ++ (A8 ++ r))))))))).Perm ((A0 ++ (A1 ++ (P ++ (A6 ++ A7)))) ++ (A2 ++ (A3 ++ (A4 ++ (A5 ++ (A8 ++ Y)))))) := ((((((((((h1).append_left _).append_left _).append_left _).append_left _).append_left _).append_left _).append_left _).append_left _).append_left _).trans (pc_sav0 A0 A1 A2 A3 A4 A5 A6 A7 A8 P Y)
theorem pc_res {A0 A1 A2 A3 A4 A5 A6 A7 A8 P Y r : va_W} (h1 : r.Perm (P ++ Y)) : (A0 ++ (A1 ++ (A2 ++ (A3 ++ (A4 ++ (A5 ++ (A6 ++ (A7 ++ (A8 ++ r))))))))).Perm ((A0 ++ (A1 ++ (P ++ (A3 ++ (A6 ++ A7))))) ++ (A2 ++ (A4 ++ (A5 ++ (A8 ++ Y))))) := ((((((((((h1).append_left _).append_left _).append_left _).append_left _).append_left _).append_left _).append_left _).append_left _).append_left _).trans (pc_res0 A0 A1 A2 A3 A4 A5 A6 A7 A8 P Y)
abbrev BS : Type := (Nat → Nat) × (Nat → Nat → Int)
def stB (τ : Nat → ClassId) (v : BS) : va_W := stW v.1 v.2 τ
abbrev adF (VV : Nat → BS) (n : Nat) : Nat → Option Nat := fN (fun j => (VV j).1 0) n
def CWl (τ : Nat → ClassId) (x sl sv : Nat) (ta aj me ad bd : Nat → Nat) (R T J : Nat → Nat → Int) (n o : Int) (X S V : Nat → Int) (VV WW : Nat → BS) : va_W := [xoC x (ta 0) (aj 0) (me 0) sl sv (ad 0) (bd 0)] ++ (stW ad R τ ++ (stW bd T τ ++ (meW me n o (adF VV 14) τ ++ (juW aj J τ ++ (txW ta X S τ ++ ([slC sl (adF WW 2) τ] ++ ([svC sv V τ] ++ (bk (stB τ) VV 14 ++ bk (stB τ) WW 2))))))))
/-- what the class's cells have to do with the reference's numbers -/
def CI (Q : Nat → Nat → Int) (n : Int) (B : Nat → Nat → Nat → Int) (V : Nat → Int) (K : Nat → Nat → Nat → Int) (t : Int) (S : Nat → Int) (R J : Nat → Nat → Int) (o : Int) (X : Nat → Int) (VV WW : Nat → BS) : Prop := (SI R ∧ SI Q ∧ EQ R Q) ∧ (HB J ∧ JSp J) ∧ (TL X ∧ BX X ∧ X 0 = t) ∧ SB S ∧ RG n o (fun j => (VV j).2) B ∧ (∀ j, V j = 0 ∨ V j = 1) ∧ (∀ j, SI (WW j).2) ∧ (∀ j, V j = 1 → SI (WW j).2 ∧ SI (K j) ∧ EQ (WW j).2 (K j))
def CW (τ : Nat → ClassId) (x : Nat) (Q : Nat → Nat → Int) (n : Int) (B : Nat → Nat → Nat → Int) (V : Nat → Int) (K : Nat → Nat → Nat → Int) (t : Int) (S : Nat → Int) (w : va_W) : Prop := ∃ (sl sv : Nat) (ta aj me ad bd : Nat → Nat) (R T J : Nat → Nat → Int) (o : Int) (X : Nat → Int) (VV WW : Nat → BS), CI Q n B V K t S R J o X VV WW ∧ w.Perm (CWl τ x sl sv ta aj me ad bd R T J n o X S V VV WW)
def cM (l : Launch) (y : MethodName) (ws : List Cond) (rm : Room) (g : va_G) (τ : Nat → ClassId) (av : List Value) (w0 : va_W) (k val : Int) (kf : String → Prop) (P0 P1 : va_W → Prop) : Prop := uMet l y ws rm g τ av w0 (ZK k val (Wn w0 k P0 P1)) (XK kf (Wn w0 k P0 P1))
theorem CWl_f (τ : Nat → ClassId) (x sl sv : Nat) (ta aj me ad bd : Nat → Nat) {R T J R2 T2 J2 : Nat → Nat → Int} {n o n2 o2 : Int} {X S V X2 S2 V2 : Nat → Int} {VV WW VV2 WW2 : Nat → BS} (hV : ∀ j, j < 14 → (stB τ (VV2 j)).map Prod.fst = (stB τ (VV j)).map Prod.fst) (hW : ∀ j, j < 2 → (stB τ (WW2 j)).map Prod.fst = (stB τ (WW j)).map Prod.fst) : (CWl τ x sl sv ta aj me ad bd R2 T2 J2 n2 o2 X2 S2 V2 VV2 WW2).map Prod.fst = (CWl τ x sl sv ta aj me ad bd R T J n o X S V VV WW).map Prod.fst :=
  map_ap rfl (map_ap rfl (map_ap rfl (map_ap rfl (map_ap (f_juw aj J J2 τ) (map_ap rfl (map_ap rfl (map_ap rfl (map_ap (bk_f _ 14 hV) (bk_f _ 2 hW)))))))))
theorem adF_nu {VV : Nat → BS} {p n : Nat} (hp : p < n) (v : BS) : va_up (adF VV n) p (some (v.1 0)) = adF (nu VV p v) n := by
  funext j
  unfold va_up adF fN nu
  by_cases h : j = p
  · subst h
    rw [if_pos rfl, if_pos hp]
    show some (v.1 0) = some ((if j = j then v else VV j).1 0)
    rw [if_pos rfl]
  · rw [if_neg h]
    show (if j < n then some ((VV j).1 0) else none) = if j < n then some ((if j = p then v else VV j).1 0) else none
    rw [if_neg h]
theorem nu_2 (VV : Nat → BS) (p : Nat) (v : BS) : (fun j => (nu VV p v j).2) = nu (fun j => (VV j).2) p v.2 := by
  funext j
  unfold nu
  by_cases h : j = p
  · rw [if_pos h, if_pos h]
  · rw [if_neg h, if_neg h]
section CQ
variable {l : Launch} {y : MethodName} {ws : List Cond} {rm : Room} {g : va_G} {τ : Nat → ClassId} {av : List Value} {x sl sv : Nat} {ta aj me ad bd : Nat → Nat} {R T J : Nat → Nat → Int} {n o : Int} {X S V : Nat → Int} {VV WW : Nat → BS} {Q : Nat → Nat → Int} {B K : Nat → Nat → Nat → Int} {t : Int} {k val : Int} {kf : String → Prop} {Z : Option Value → va_W → Prop} {Zx : String → va_W → Prop}
theorem CI.J2 {J2 : Nat → Nat → Int} (h : CI Q n B V K t S R J o X VV WW) (h1 : HB J2) (h2 : JSp J2) : CI Q n B V K t S R J2 o X VV WW := ⟨h.1, ⟨h1, h2⟩, h.2.2⟩
theorem CI.tx {S2 X2 : Nat → Int} {t2 : Int} (h : CI Q n B V K t S R J o X VV WW) (hL : TL X2) (hB : BX X2) (h0 : X2 0 = t2) (hS : SB S2) : CI Q n B V K t2 S2 R J o X2 VV WW := ⟨h.1, h.2.1, ⟨hL, hB, h0⟩, hS, h.2.2.2.2⟩
theorem CW_of (h : CI Q n B V K t S R J o X VV WW) : CW τ x Q n B V K t S (CWl τ x sl sv ta aj me ad bd R T J n o X S V VV WW) := ⟨sl, sv, ta, aj, me, ad, bd, R, T, J, o, X, VV, WW, h, List.Perm.refl _⟩
theorem cq_s (hC : CI Q n B V K t S R J o X VV WW) (h : uMet l y ws rm g τ av ([xoC x (ta 0) (aj 0) (me 0) sl sv (ad 0) (bd 0)] ++ stW ad R τ) Z Zx) (hZ : ∀ v w1, Z v w1 → k = 0 ∧ v = some (.int (iI val)) ∧ w1 = [xoC x (ta 0) (aj 0) (me 0) sl sv (ad 0) (bd 0)] ++ stW ad R τ) (hX : ∀ E w1, Zx E w1 → (kf E ∧ ¬ k = 0) ∧ w1 = [xoC x (ta 0) (aj 0) (me 0) sl sv (ad 0) (bd 0)] ++ stW ad R τ) : cM l y ws rm g τ av (CWl τ x sl sv ta aj me ad bd R T J n o X S V VV WW) k val kf (CW τ x Q n B V K t S) (CW τ x Q n B V K t S) := by
  refine uMet.fr h (pc10_01 _ _ _ _ _ _ _ _ _ _) (fun v w1 hz => ?_) (fun E w1 hz => ?_) (fun v w1 hz => ?_) (fun E w1 hz => ?_)
  · obtain ⟨-, -, rfl⟩ := hZ v w1 hz
    exact rfl
  · obtain ⟨-, rfl⟩ := hX E w1 hz
    exact rfl
  · obtain ⟨h1, h2, rfl⟩ := hZ v w1 hz
    have cw : CW τ x Q n B V K t S (CWl τ x sl sv ta aj me ad bd R T J n o X S V VV WW) := CW_of hC
    exact ⟨CWl τ x sl sv ta aj me ad bd R T J n o X S V VV WW, (pc10_01 _ _ _ _ _ _ _ _ _ _).symm, h1, h2, rfl, fun _ => cw, fun _ => cw⟩
  · obtain ⟨h1, rfl⟩ := hX E w1 hz
    have cw : CW τ x Q n B V K t S (CWl τ x sl sv ta aj me ad bd R T J n o X S V VV WW) := CW_of hC
    exact ⟨CWl τ x sl sv ta aj me ad bd R T J n o X S V VV WW, (pc10_01 _ _ _ _ _ _ _ _ _ _).symm, h1.1, rfl, fun _ => cw, fun _ => cw⟩
theorem cq_sj (hC : CI Q n B V K t S R J o X VV WW) (h : uMet l y ws rm g τ av ([xoC x (ta 0) (aj 0) (me 0) sl sv (ad 0) (bd 0)] ++ (stW ad R τ ++ juW aj J τ)) Z Zx) (hZ : ∀ v w1, Z v w1 → k = 0 ∧ v = some (.int (iI val)) ∧ ∃ J2, HB J2 ∧ JSp J2 ∧ w1 = [xoC x (ta 0) (aj 0) (me 0) sl sv (ad 0) (bd 0)] ++ (stW ad R τ ++ juW aj J2 τ)) (hX : ∀ E w1, Zx E w1 → (kf E ∧ ¬ k = 0) ∧ ∃ J2, HB J2 ∧ JSp J2 ∧ w1 = [xoC x (ta 0) (aj 0) (me 0) sl sv (ad 0) (bd 0)] ++ (stW ad R τ ++ juW aj J2 τ)) : cM l y ws rm g τ av (CWl τ x sl sv ta aj me ad bd R T J n o X S V VV WW) k val kf (CW τ x Q n B V K t S) (CW τ x Q n B V K t S) := by
  refine uMet.fr h (pc10_014 _ _ _ _ _ _ _ _ _ _) (fun v w1 hz => ?_) (fun E w1 hz => ?_) (fun v w1 hz => ?_) (fun E w1 hz => ?_)
  · obtain ⟨-, -, J2, a1, a2, rfl⟩ := hZ v w1 hz
    exact map_ap rfl (map_ap rfl (f_juw aj J J2 τ))
  · obtain ⟨-, J2, a1, a2, rfl⟩ := hX E w1 hz
    exact map_ap rfl (map_ap rfl (f_juw aj J J2 τ))
  · obtain ⟨h1, h2, J2, a1, a2, rfl⟩ := hZ v w1 hz
    have cw : CW τ x Q n B V K t S (CWl τ x sl sv ta aj me ad bd R T J2 n o X S V VV WW) := CW_of (hC.J2 a1 a2)
    exact ⟨CWl τ x sl sv ta aj me ad bd R T J2 n o X S V VV WW, (pc10_014 _ _ _ _ _ _ _ _ _ _).symm, h1, h2, CWl_f τ x sl sv ta aj me ad bd (fun _ _ => rfl) (fun _ _ => rfl), fun _ => cw, fun _ => cw⟩
  · obtain ⟨h1, J2, a1, a2, rfl⟩ := hX E w1 hz
    have cw : CW τ x Q n B V K t S (CWl τ x sl sv ta aj me ad bd R T J2 n o X S V VV WW) := CW_of (hC.J2 a1 a2)
    exact ⟨CWl τ x sl sv ta aj me ad bd R T J2 n o X S V VV WW, (pc10_014 _ _ _ _ _ _ _ _ _ _).symm, h1.1, CWl_f τ x sl sv ta aj me ad bd (fun _ _ => rfl) (fun _ _ => rfl), fun _ => cw, fun _ => cw⟩
theorem cq_stj (hC : CI Q n B V K t S R J o X VV WW) (h : uMet l y ws rm g τ av ([xoC x (ta 0) (aj 0) (me 0) sl sv (ad 0) (bd 0)] ++ (stW ad R τ ++ (stW bd T τ ++ juW aj J τ))) Z Zx) (hZ : ∀ v w1, Z v w1 → k = 0 ∧ v = some (.int (iI val)) ∧ ∃ T2 J2, HB J2 ∧ JSp J2 ∧ w1 = [xoC x (ta 0) (aj 0) (me 0) sl sv (ad 0) (bd 0)] ++ (stW ad R τ ++ (stW bd T2 τ ++ juW aj J2 τ))) (hX : ∀ E w1, Zx E w1 → (kf E ∧ ¬ k = 0) ∧ ∃ T2 J2, HB J2 ∧ JSp J2 ∧ w1 = [xoC x (ta 0) (aj 0) (me 0) sl sv (ad 0) (bd 0)] ++ (stW ad R τ ++ (stW bd T2 τ ++ juW aj J2 τ))) : cM l y ws rm g τ av (CWl τ x sl sv ta aj me ad bd R T J n o X S V VV WW) k val kf (CW τ x Q n B V K t S) (CW τ x Q n B V K t S) := by
  refine uMet.fr h (pc10_0124 _ _ _ _ _ _ _ _ _ _) (fun v w1 hz => ?_) (fun E w1 hz => ?_) (fun v w1 hz => ?_) (fun E w1 hz => ?_)
  · obtain ⟨-, -, T2, J2, a1, a2, rfl⟩ := hZ v w1 hz
    exact map_ap rfl (map_ap rfl (map_ap rfl (f_juw aj J J2 τ)))
  · obtain ⟨-, T2, J2, a1, a2, rfl⟩ := hX E w1 hz
    exact map_ap rfl (map_ap rfl (map_ap rfl (f_juw aj J J2 τ)))
  · obtain ⟨h1, h2, T2, J2, a1, a2, rfl⟩ := hZ v w1 hz
    have cw : CW τ x Q n B V K t S (CWl τ x sl sv ta aj me ad bd R T2 J2 n o X S V VV WW) := CW_of (hC.J2 a1 a2)
    exact ⟨CWl τ x sl sv ta aj me ad bd R T2 J2 n o X S V VV WW, (pc10_0124 _ _ _ _ _ _ _ _ _ _).symm, h1, h2, CWl_f τ x sl sv ta aj me ad bd (fun _ _ => rfl) (fun _ _ => rfl), fun _ => cw, fun _ => cw⟩
  · obtain ⟨h1, T2, J2, a1, a2, rfl⟩ := hX E w1 hz
    have cw : CW τ x Q n B V K t S (CWl τ x sl sv ta aj me ad bd R T2 J2 n o X S V VV WW) := CW_of (hC.J2 a1 a2)
    exact ⟨CWl τ x sl sv ta aj me ad bd R T2 J2 n o X S V VV WW, (pc10_0124 _ _ _ _ _ _ _ _ _ _).symm, h1.1, CWl_f τ x sl sv ta aj me ad bd (fun _ _ => rfl) (fun _ _ => rfl), fun _ => cw, fun _ => cw⟩
theorem adF_p {p : Nat} (hp : p < 14) : adF VV 14 p = some ((VV p).1 0) := if_pos hp
theorem act_ok {A A' : Int × (Nat → Nat → Int)} (hC : CI Q n B V K t S R J o X VV WW) (hE : EQ2 A A') (hA : SI A.2 ∧ SI A'.2) : CW τ x A'.2 (mN n) (rmB n B Q).2 V K t S ([xoC x (ta 0) (aj 0) (me 0) sl sv (bd 0) ((VV ((o + n) % 14).toNat).1 0)] ++ (stW ad R τ ++ (stW bd A.2 τ ++ (meW me (mN n) (mO n o) (mR (adF VV 14) n o (ad 0)) τ ++ (juW aj J τ ++ (txW ta X S τ ++ ([slC sl (adF WW 2) τ] ++ ([svC sv V τ] ++ (bk (stB τ) VV 14 ++ bk (stB τ) WW 2))))))))) := by
  obtain ⟨⟨hR, hQ, e⟩, hJ, hX, hS, hG, hV, hK⟩ := hC
  obtain ⟨hG2, -⟩ := RG_push hG hR hQ e
  have hp : ((o + n) % 14).toNat < 14 := rg_p hG.2.1 hG.1.1
  rw [← nu_2 VV ((o + n) % 14).toNat (ad, R)] at hG2
  have e2 : mR (adF VV 14) n o (ad 0) = adF (nu VV ((o + n) % 14).toNat (ad, R)) 14 := adF_nu hp (ad, R)
  rw [e2]
  exact ⟨sl, sv, ta, aj, me, bd, (VV ((o + n) % 14).toNat).1, A.2, (VV ((o + n) % 14).toNat).2, J, mO n o, X, nu VV ((o + n) % 14).toNat (ad, R), WW, ⟨⟨hA.1, hA.2, hE.2⟩, hJ, hX, hS, hG2, hV, hK⟩, pc_act (bk_x (stB τ) VV 14 hp) (bk_nu (stB τ) VV (ad, R) hp)⟩
theorem ca_stm {A A' : Int × (Nat → Nat → Int)} (hC : CI Q n B V K t S R J o X VV WW) (h : uMet l y ws rm g τ av ([xoC x (ta 0) (aj 0) (me 0) sl sv (ad 0) (bd 0)] ++ (stW ad R τ ++ (stW bd T τ ++ meW me n o (adF VV 14) τ))) (fun v w => 0 ≤ A.1 ∧ v = some (Value.int (iI A.1)) ∧ w = [xoC x (ta 0) (aj 0) (me 0) sl sv (bd 0) ((VV ((o + n) % 14).toNat).1 0)] ++ (stW ad R τ ++ (stW bd A.2 τ ++ meW me (mN n) (mO n o) (mR (adF VV 14) n o (ad 0)) τ))) (fun E w => xEx A.1 E ∧ ∃ T2, w = [xoC x (ta 0) (aj 0) (me 0) sl sv (ad 0) (bd 0)] ++ (stW ad R τ ++ (stW bd T2 τ ++ meW me n o (adF VV 14) τ)))) (hE : EQ2 A A') (hA : SI A.2 ∧ SI A'.2) (hk0 : 0 ≤ A'.1 → k = 0) (hk : ∀ E, xEx A'.1 E → kf E ∧ ¬ k = 0) : cM l y ws rm g τ av (CWl τ x sl sv ta aj me ad bd R T J n o X S V VV WW) k A'.1 kf (CW τ x A'.2 (mN n) (rmB n B Q).2 V K t S) (CW τ x Q n B V K t S) := by
  refine uMet.fr h (pc10_0123 _ _ _ _ _ _ _ _ _ _) (fun v w1 hz => ?_) (fun E w1 hz => ?_) (fun v w1 hz => ?_) (fun E w1 hz => ?_)
  · obtain ⟨-, -, rfl⟩ := hz
    exact rfl
  · obtain ⟨-, T2, rfl⟩ := hz
    exact rfl
  · obtain ⟨h1, h2, rfl⟩ := hz
    have k0 : k = 0 := hk0 (by rw [← hE.1]; exact h1)
    exact ⟨[xoC x (ta 0) (aj 0) (me 0) sl sv (bd 0) ((VV ((o + n) % 14).toNat).1 0)] ++ (stW ad R τ ++ (stW bd A.2 τ ++ (meW me (mN n) (mO n o) (mR (adF VV 14) n o (ad 0)) τ ++ (juW aj J τ ++ (txW ta X S τ ++ ([slC sl (adF WW 2) τ] ++ ([svC sv V τ] ++ (bk (stB τ) VV 14 ++ bk (stB τ) WW 2)))))))), (pc10_0123 _ _ _ _ _ _ _ _ _ _).symm, k0, by rw [← hE.1]; exact h2, rfl, fun _ => act_ok hC hE hA, fun z => absurd k0 z⟩
  · obtain ⟨h1, T2, rfl⟩ := hz
    rw [hE.1] at h1
    obtain ⟨b1, b2⟩ := hk E h1
    exact ⟨CWl τ x sl sv ta aj me ad bd R T2 J n o X S V VV WW, (pc10_0123 _ _ _ _ _ _ _ _ _ _).symm, b1, rfl, fun z => absurd z b2, fun _ => CW_of hC⟩
theorem ca_stmj {A A' : Int × (Nat → Nat → Int)} (hC : CI Q n B V K t S R J o X VV WW) (h : uMet l y ws rm g τ av ([xoC x (ta 0) (aj 0) (me 0) sl sv (ad 0) (bd 0)] ++ (stW ad R τ ++ (stW bd T τ ++ (meW me n o (adF VV 14) τ ++ juW aj J τ)))) (fun v w => 0 ≤ A.1 ∧ v = some (Value.int (iI A.1)) ∧ ∃ J2, HB J2 ∧ JSp J2 ∧ w = [xoC x (ta 0) (aj 0) (me 0) sl sv (bd 0) ((VV ((o + n) % 14).toNat).1 0)] ++ (stW ad R τ ++ (stW bd A.2 τ ++ (meW me (mN n) (mO n o) (mR (adF VV 14) n o (ad 0)) τ ++ juW aj J2 τ)))) (fun E w => xEx A.1 E ∧ ∃ T2 J2, HB J2 ∧ JSp J2 ∧ w = [xoC x (ta 0) (aj 0) (me 0) sl sv (ad 0) (bd 0)] ++ (stW ad R τ ++ (stW bd T2 τ ++ (meW me n o (adF VV 14) τ ++ juW aj J2 τ))))) (hE : EQ2 A A') (hA : SI A.2 ∧ SI A'.2) (hk0 : 0 ≤ A'.1 → k = 0) (hk : ∀ E, xEx A'.1 E → kf E ∧ ¬ k = 0) : cM l y ws rm g τ av (CWl τ x sl sv ta aj me ad bd R T J n o X S V VV WW) k A'.1 kf (CW τ x A'.2 (mN n) (rmB n B Q).2 V K t S) (CW τ x Q n B V K t S) := by
  refine uMet.fr h (pc10_01234 _ _ _ _ _ _ _ _ _ _) (fun v w1 hz => ?_) (fun E w1 hz => ?_) (fun v w1 hz => ?_) (fun E w1 hz => ?_)
  · obtain ⟨-, -, J2, a1, a2, rfl⟩ := hz
    exact map_ap rfl (map_ap rfl (map_ap rfl (map_ap rfl (f_juw aj J J2 τ))))
  · obtain ⟨-, T2, J2, a1, a2, rfl⟩ := hz
    exact map_ap rfl (map_ap rfl (map_ap rfl (map_ap rfl (f_juw aj J J2 τ))))
  · obtain ⟨h1, h2, J2, a1, a2, rfl⟩ := hz
    have k0 : k = 0 := hk0 (by rw [← hE.1]; exact h1)
    exact ⟨[xoC x (ta 0) (aj 0) (me 0) sl sv (bd 0) ((VV ((o + n) % 14).toNat).1 0)] ++ (stW ad R τ ++ (stW bd A.2 τ ++ (meW me (mN n) (mO n o) (mR (adF VV 14) n o (ad 0)) τ ++ (juW aj J2 τ ++ (txW ta X S τ ++ ([slC sl (adF WW 2) τ] ++ ([svC sv V τ] ++ (bk (stB τ) VV 14 ++ bk (stB τ) WW 2)))))))), (pc10_01234 _ _ _ _ _ _ _ _ _ _).symm, k0, by rw [← hE.1]; exact h2, map_ap rfl (map_ap rfl (map_ap rfl (map_ap rfl (map_ap (f_juw aj J J2 τ) rfl)))), fun _ => act_ok (hC.J2 a1 a2) hE hA, fun z => absurd k0 z⟩
  · obtain ⟨h1, T2, J2, a1, a2, rfl⟩ := hz
    rw [hE.1] at h1
    obtain ⟨b1, b2⟩ := hk E h1
    exact ⟨CWl τ x sl sv ta aj me ad bd R T2 J2 n o X S V VV WW, (pc10_01234 _ _ _ _ _ _ _ _ _ _).symm, b1, CWl_f τ x sl sv ta aj me ad bd (fun _ _ => rfl) (fun _ _ => rfl), fun z => absurd z b2, fun _ => CW_of (hC.J2 a1 a2)⟩
theorem cu (hC : CI Q n B V K t S R J o X VV WW) (h : uMet l y ws rm g τ av ([xoC x (ta 0) (aj 0) (me 0) sl sv (ad 0) (bd 0)] ++ (stW ad R τ ++ meW me n o (adF VV 14) τ)) (fun v w => 0 < n ∧ v = some (Value.int (iI (n - 1))) ∧ w = [xoC x (ta 0) (aj 0) (me 0) sl sv ((VV ((o + (n - 1)) % 14).toNat).1 0) (bd 0)] ++ (stW ad R τ ++ meW me (n - 1) o (va_up (adF VV 14) ((o + (n - 1)) % 14).toNat (some (ad 0))) τ)) (fun E w => n = 0 ∧ E = nIS ∧ w = [xoC x (ta 0) (aj 0) (me 0) sl sv (ad 0) (bd 0)] ++ (stW ad R τ ++ meW me n o (adF VV 14) τ))) : cM l y ws rm g τ av (CWl τ x sl sv ta aj me ad bd R T J n o X S V VV WW) (if n = 0 then 1 else 0) (n - 1) (kx1 nIS (if n = 0 then 1 else 0)) (CW τ x (B (n - 1).toNat) (n - 1) B V K t S) (CW τ x Q n B V K t S) := by
  refine uMet.fr h (pc10_013 _ _ _ _ _ _ _ _ _ _) (fun v w1 hz => ?_) (fun E w1 hz => ?_) (fun v w1 hz => ?_) (fun E w1 hz => ?_)
  · obtain ⟨-, -, rfl⟩ := hz
    rfl
  · obtain ⟨-, -, rfl⟩ := hz
    rfl
  · obtain ⟨h1, h2, rfl⟩ := hz
    have k0 : (if n = 0 then (1 : Int) else 0) = 0 := if_neg (by omega)
    refine ⟨[xoC x (ta 0) (aj 0) (me 0) sl sv ((VV ((o + (n - 1)) % 14).toNat).1 0) (bd 0)] ++ (stW ad R τ ++ (stW bd T τ ++ (meW me (n - 1) o (va_up (adF VV 14) ((o + (n - 1)) % 14).toNat (some (ad 0))) τ ++ (juW aj J τ ++ (txW ta X S τ ++ ([slC sl (adF WW 2) τ] ++ ([svC sv V τ] ++ (bk (stB τ) VV 14 ++ bk (stB τ) WW 2)))))))), (pc10_013 _ _ _ _ _ _ _ _ _ _).symm, k0, h2, rfl, fun _ => ?_, fun z => absurd k0 z⟩
    obtain ⟨⟨hR, hQ, e⟩, hJ, hX, hS, hG, hV, hK⟩ := hC
    obtain ⟨⟨b1, b2, b3⟩, hG2⟩ := RG_pop hG h1 R
    have hp : ((o + (n - 1)) % 14).toNat < 14 := rg_p hG.2.1 (by omega)
    have e3 : nu (fun j => (VV j).2) ((o + (n - 1)) % 14).toNat R = fun j => (nu VV ((o + (n - 1)) % 14).toNat (ad, R) j).2 := (nu_2 VV ((o + (n - 1)) % 14).toNat (ad, R)).symm
    rw [e3] at hG2
    have e2 : va_up (adF VV 14) ((o + (n - 1)) % 14).toNat (some (ad 0)) = adF (nu VV ((o + (n - 1)) % 14).toNat (ad, R)) 14 := adF_nu hp (ad, R)
    rw [e2]
    exact ⟨sl, sv, ta, aj, me, (VV ((o + (n - 1)) % 14).toNat).1, bd, (VV ((o + (n - 1)) % 14).toNat).2, T, J, o, X, nu VV ((o + (n - 1)) % 14).toNat (ad, R), WW, ⟨⟨b1, b2, b3⟩, hJ, hX, hS, hG2, hV, hK⟩, pc_und (bk_x (stB τ) VV 14 hp) (bk_nu (stB τ) VV (ad, R) hp)⟩
  · obtain ⟨h1, h2, rfl⟩ := hz
    have k1 : (if n = 0 then (1 : Int) else 0) = 1 := if_pos h1
    exact ⟨CWl τ x sl sv ta aj me ad bd R T J n o X S V VV WW, (pc10_013 _ _ _ _ _ _ _ _ _ _).symm, ⟨k1, h2⟩, rfl, fun z => absurd (k1.symm.trans z) (by decide), fun _ => CW_of hC⟩
theorem bs_f (τ : Nat → ClassId) (p : Nat) (R : Nat → Nat → Int) (j : Nat) : (stB τ (nu WW p ((WW p).1, R) j)).map Prod.fst = (stB τ (WW j)).map Prod.fst := by
  unfold nu
  by_cases h : j = p
  · rw [if_pos h, h]
    rfl
  · rw [if_neg h]
theorem adF_same (p n : Nat) (R : Nat → Nat → Int) : adF (nu WW p ((WW p).1, R)) n = adF WW n := by
  funext j
  unfold adF fN nu
  show (if j < n then some ((if j = p then ((WW p).1, R) else WW j).1 0) else none) = if j < n then some ((WW j).1 0) else none
  by_cases h : j = p
  · rw [if_pos h, h]
  · rw [if_neg h]
def kSv (z : Int) : Int := if 0 ≤ z ∧ z < 2 then 0 else 1
theorem csv {z : Int} {i : Nat} (hi : i < 2) (hz : 0 ≤ z ∧ z < 2 → i = z.toNat) (hC : CI Q n B V K t S R J o X VV WW) (h : uMet l y ws rm g τ av ([xoC x (ta 0) (aj 0) (me 0) sl sv (ad 0) (bd 0)] ++ (stW ad R τ ++ (stW (WW i).1 (WW i).2 τ ++ ([slC sl (adF WW 2) τ] ++ [svC sv V τ])))) (fun v w => (0 ≤ z ∧ z < 2) ∧ v = some (Value.int (iI (R 10 0))) ∧ w = [xoC x (ta 0) (aj 0) (me 0) sl sv (ad 0) (bd 0)] ++ (stW ad R τ ++ (stW (WW i).1 R τ ++ ([slC sl (adF WW 2) τ] ++ [svC sv (updZ V z.toNat 1) τ])))) (fun E w => ¬ (0 ≤ z ∧ z < 2) ∧ E = nIO ∧ w = [xoC x (ta 0) (aj 0) (me 0) sl sv (ad 0) (bd 0)] ++ (stW ad R τ ++ (stW (WW i).1 (WW i).2 τ ++ ([slC sl (adF WW 2) τ] ++ [svC sv V τ]))))) : cM l y ws rm g τ av (CWl τ x sl sv ta aj me ad bd R T J n o X S V VV WW) (kSv z) (Q 10 0) (kx1 nIO (kSv z)) (CW τ x Q n B (updZ V z.toNat 1) (upB K z.toNat Q) t S) (CW τ x Q n B V K t S) := by
  refine uMet.fr h (pc_sav (bk_x (stB τ) WW 2 hi)) (fun v w1 hz => ?_) (fun E w1 hz => ?_) (fun v w1 hz2 => ?_) (fun E w1 hz2 => ?_)
  · obtain ⟨-, -, rfl⟩ := hz
    rfl
  · obtain ⟨-, -, rfl⟩ := hz
    rfl
  · obtain ⟨h1, h2, rfl⟩ := hz2
    have k0 : kSv z = 0 := if_pos h1
    have hi2 := hz h1
    obtain ⟨⟨hR, hQ, e⟩, hJ, hX, hS, hG, hV, hK⟩ := hC
    refine ⟨CWl τ x sl sv ta aj me ad bd R T J n o X S (updZ V z.toNat 1) VV (nu WW i ((WW i).1, R)), ?_, k0, by rw [← e.2.2.1]; exact h2, CWl_f τ x sl sv ta aj me ad bd (fun _ _ => rfl) (fun j _ => bs_f τ i R j), fun _ => ?_, fun z => absurd k0 z⟩
    · unfold CWl
      rw [adF_same]
      exact (pc_sav (bk_nu (stB τ) WW ((WW i).1, R) hi)).symm
    · refine CW_of ⟨⟨hR, hQ, e⟩, hJ, hX, hS, hG, fun j => ?_, fun j => ?_, fun j hj => ?_⟩
      · show (if j = z.toNat then (1 : Int) else V j) = 0 ∨ (if j = z.toNat then (1 : Int) else V j) = 1
        by_cases c : j = z.toNat
        · rw [if_pos c]; exact Or.inr rfl
        · rw [if_neg c]; exact hV j
      · by_cases c : j = i
        · have c1 : nu WW i ((WW i).1, R) j = ((WW i).1, R) := if_pos c
          rw [c1]
          exact hR
        · have c1 : nu WW i ((WW i).1, R) j = WW j := if_neg c
          rw [c1]
          exact hK.1 j
      · by_cases c : j = z.toNat
        · have c1 : nu WW i ((WW i).1, R) j = ((WW i).1, R) := if_pos (by omega)
          have c2 : upB K z.toNat Q j = Q := if_pos c
          rw [c1, c2]
          exact ⟨hR, hQ, e⟩
        · have c1 : nu WW i ((WW i).1, R) j = WW j := if_neg (by omega)
          have c2 : upB K z.toNat Q j = K j := if_neg c
          have c3 : updZ V z.toNat 1 j = V j := if_neg c
          rw [c1, c2]
          exact hK.2 j (c3.symm.trans hj)
  · obtain ⟨h1, h2, rfl⟩ := hz2
    have k1 : kSv z = 1 := if_neg h1
    exact ⟨CWl τ x sl sv ta aj me ad bd R T J n o X S V VV WW, (pc_sav (bk_x (stB τ) WW 2 hi)).symm, ⟨k1, h2⟩, rfl, fun z => absurd (k1.symm.trans z) (by decide), fun _ => CW_of hC⟩
def kRs (z : Int) (V : Nat → Int) : Int := if 0 ≤ z ∧ z < 2 then (if V z.toNat = 0 then 2 else 0) else 1
theorem crs {z : Int} {i : Nat} (hi : i < 2) (hz : 0 ≤ z ∧ z < 2 → i = z.toNat) (hC : CI Q n B V K t S R J o X VV WW) (h : uMet l y ws rm g τ av ([xoC x (ta 0) (aj 0) (me 0) sl sv (ad 0) (bd 0)] ++ (stW ad R τ ++ (stW (WW i).1 (WW i).2 τ ++ (meW me n o (adF VV 14) τ ++ ([slC sl (adF WW 2) τ] ++ [svC sv V τ]))))) (fun v w => ((0 ≤ z ∧ z < 2) ∧ V z.toNat = 1) ∧ v = some (Value.int (iI ((WW i).2 10 0))) ∧ w = [xoC x (ta 0) (aj 0) (me 0) sl sv (ad 0) (bd 0)] ++ (stW ad (WW i).2 τ ++ (stW (WW i).1 (WW i).2 τ ++ (meW me 0 o (adF VV 14) τ ++ ([slC sl (adF WW 2) τ] ++ [svC sv V τ]))))) (fun E w => ((¬ (0 ≤ z ∧ z < 2) ∧ E = nIO) ∨ ((0 ≤ z ∧ z < 2) ∧ V z.toNat = 0 ∧ E = nIS)) ∧ w = [xoC x (ta 0) (aj 0) (me 0) sl sv (ad 0) (bd 0)] ++ (stW ad R τ ++ (stW (WW i).1 (WW i).2 τ ++ (meW me n o (adF VV 14) τ ++ ([slC sl (adF WW 2) τ] ++ [svC sv V τ])))))) : cM l y ws rm g τ av (CWl τ x sl sv ta aj me ad bd R T J n o X S V VV WW) (kRs z V) (K z.toNat 10 0) (kx2 nIO nIS (kRs z V)) (CW τ x (K z.toNat) 0 B V K t S) (CW τ x Q n B V K t S) := by
  refine uMet.fr h (pc_res (bk_x (stB τ) WW 2 hi)) (fun v w1 hz => ?_) (fun E w1 hz => ?_) (fun v w1 hz2 => ?_) (fun E w1 hz2 => ?_)
  · obtain ⟨-, -, rfl⟩ := hz
    rfl
  · obtain ⟨-, rfl⟩ := hz
    rfl
  · obtain ⟨⟨h1, hV1⟩, h2, rfl⟩ := hz2
    have k0 : kRs z V = 0 := by
      unfold kRs
      rw [if_pos h1, if_neg (by omega)]
    have hi2 := hz h1
    obtain ⟨⟨hR, hQ, e⟩, hJ, hX, hS, hG, hV, hK⟩ := hC
    have h9 := hK.2 z.toNat hV1
    rw [hi2] at h2
    refine ⟨CWl τ x sl sv ta aj me ad bd (WW i).2 T J 0 o X S V VV WW, (pc_res (bk_x (stB τ) WW 2 hi)).symm, k0, by rw [← h9.2.2.2.2.1]; exact h2, rfl, fun _ => CW_of ⟨?_, hJ, hX, hS, RG_0 _ B hG.2.1, hV, hK⟩, fun z => absurd k0 z⟩
    rw [hi2]
    exact h9
  · obtain ⟨h1, rfl⟩ := hz2
    have k1 : kx2 nIO nIS (kRs z V) E ∧ ¬ kRs z V = 0 := by
      unfold kRs
      rcases h1 with ⟨h1, h2⟩ | ⟨h1, h2, h3⟩
      · rw [if_neg h1]
        exact ⟨Or.inl ⟨rfl, h2⟩, by decide⟩
      · rw [if_pos h1, if_pos h2]
        exact ⟨Or.inr ⟨rfl, h3⟩, by decide⟩
    exact ⟨CWl τ x sl sv ta aj me ad bd R T J n o X S V VV WW, (pc_res (bk_x (stB τ) WW 2 hi)).symm, k1.1, rfl, fun z => absurd z k1.2, fun _ => CW_of hC⟩
end CQ
