/-! the judge's world and what calls leave in it -/
theorem y1 {D : va_G} {cl : List vw_C} {aj : Nat → Nat} {J : Nat → Nat → Int} {τ : Nat → ClassId} {H : Heap} (h : va_P D cl (juW aj J τ) H) {i : Nat} (hi : i < 31) : va_P D cl [yC (aj (10 + i)) (J 0 i) (J 1 i) (J 2 i)] H := fun k q hk => by
  match k, hk with
  | 0, hk => cases hk; exact h (6 + i) _ (juW_at aj J τ hi)
theorem y1s {D : va_G} {cl : List vw_C} {aj : Nat → Nat} {J : Nat → Nat → Int} {τ : Nat → ClassId} {H : Heap} {i : Nat} {lo hi sp : Int} (h : va_P D cl (juW aj (yset J i lo hi sp) τ) H) (h31 : i < 31) : va_P D cl [yC (aj (10 + i)) lo hi sp] H := by
  have := y1 h h31
  simpa [yset] using this
theorem y1o {D : va_G} {cl : List vw_C} {aj : Nat → Nat} {J : Nat → Nat → Int} {τ : Nat → ClassId} {H : Heap} (h : va_P D cl (juW aj J τ) H) {i : Nat} (hi : i < 31) {lo hi2 sp : Int} (e0 : J 0 i = lo) (e1 : J 1 i = hi2) (e2 : J 2 i = sp) : va_P D cl [yC (aj (10 + i)) lo hi2 sp] H := by
  subst e0; subst e1; subst e2; exact y1 h hi
theorem f_y (a : Nat) (x y z x2 y2 z2 : Int) : ([yC a x y z] : va_W).map Prod.fst = ([yC a x2 y2 z2] : va_W).map Prod.fst := rfl
theorem f_y2 (a b : Nat) (x y z x2 y2 z2 u v w : Int) : ([yC a x y z] ++ [yC b u v w] : va_W).map Prod.fst = ([yC a x2 y2 z2] ++ [yC b u v w] : va_W).map Prod.fst := rfl
theorem juW_len (aj : Nat → Nat) (J : Nat → Nat → Int) (τ : Nat → ClassId) : (juW aj J τ).length = 37 := by
  unfold juW juY
  rw [List.length_append, List.length_map, List.length_range]
  rfl
theorem c_y {aj : Nat → Nat} {J : Nat → Nat → Int} {τ : Nat → ClassId} {X : va_W} {i : Nat} (h : i < 31) {lo hi sp : Int} (e0 : J 0 i = lo) (e1 : J 1 i = hi) (e2 : J 2 i = sp) : (juW aj J τ ++ X)[6 + i]? = some (yC (aj (10 + i)) lo hi sp) := by
  rw [List.getElem?_append_left (by rw [juW_len]; omega), juW_at aj J τ h, e0, e1, e2]
theorem c_y1 {aj : Nat → Nat} {J : Nat → Nat → Int} {τ : Nat → ClassId} {X : va_W} {i : Nat} (h : i < 31) {lo hi sp : Int} (e0 : J 0 i = lo) (e1 : J 1 i = hi) (e2 : J 2 i = sp) : [6 + i].map (fun k => (juW aj J τ ++ X)[k]?) = ([yC (aj (10 + i)) lo hi sp] : va_W).map some := by
  rw [List.map_singleton, c_y h e0 e1 e2]; rfl
theorem c_y2 {aj : Nat → Nat} {J : Nat → Nat → Int} {τ : Nat → ClassId} {X : va_W} {i j : Nat} (h : i < 31) {lo hi sp : Int} (e0 : J 0 i = lo) (e1 : J 1 i = hi) (e2 : J 2 i = sp) (hj : j < 31) {lo2 hi2 sp2 : Int} (d0 : J 0 j = lo2) (d1 : J 1 j = hi2) (d2 : J 2 j = sp2) : [6 + i, 6 + j].map (fun k => (juW aj J τ ++ X)[k]?) = ([yC (aj (10 + i)) lo hi sp] ++ [yC (aj (10 + j)) lo2 hi2 sp2] : va_W).map some := by
  rw [List.map_cons, List.map_singleton, c_y h e0 e1 e2, c_y hj d0 d1 d2]; rfl
theorem b_y {aj : Nat → Nat} {J : Nat → Nat → Int} {τ : Nat → ClassId} {X : va_W} {i : Nat} (h : i < 31) (lo hi sp : Int) : va_repl (juW aj J τ ++ X) ([6 + i].zip [yC (aj (10 + i)) lo hi sp]) = juW aj (yset J i lo hi sp) τ ++ X := by
  show (juW aj J τ ++ X).set (6 + i) _ = _
  rw [set_left (by rw [juW_len]; omega), juW_set aj J τ h]
theorem yset_id (J : Nat → Nat → Int) (i : Nat) : yset J i (J 0 i) (J 1 i) (J 2 i) = J := by
  funext k j
  unfold yset
  split
  · rename_i h
    subst h
    split
    · rename_i h; rw [h]
    · split
      · rename_i h; rw [h]
      · split
        · rename_i h; rw [h]
        · rfl
  · rfl
theorem b_y2 {aj : Nat → Nat} {J : Nat → Nat → Int} {τ : Nat → ClassId} {X : va_W} {i j : Nat} (h : i < 31) (hj : j < 31) (hij : ¬ i = j) (lo hi sp : Int) {lo2 hi2 sp2 : Int} (d0 : J 0 j = lo2) (d1 : J 1 j = hi2) (d2 : J 2 j = sp2) : va_repl (juW aj J τ ++ X) ([6 + i, 6 + j].zip ([yC (aj (10 + i)) lo hi sp] ++ [yC (aj (10 + j)) lo2 hi2 sp2])) = juW aj (yset J i lo hi sp) τ ++ X := by
  show ((juW aj J τ ++ X).set (6 + i) _).set (6 + j) _ = _
  rw [set_left (by rw [juW_len]; omega), juW_set aj J τ h, set_left (by rw [juW_len]; omega), juW_set aj _ τ hj]
  have e : ∀ k, yset J i lo hi sp k j = J k j := fun k => by
    unfold yset; rw [if_neg (fun q => hij q.symm)]
  rw [← d0, ← d1, ← d2, ← e 0, ← e 1, ← e 2, yset_id]
theorem s_j3 (aj : Nat → Nat) (J : Nat → Nat → Int) (τ : Nat → ClassId) (X : va_W) (f : Nat → Int) : (juW aj J τ ++ X).set 3 (aj 3, .inl (τ 0, 24, .inl (fun j => iI (f j)))) = juW aj (u2 J 3 f) τ ++ X := by rw [set_left (by rw [juW_len]; decide), juW_3]
theorem s_j4 (aj : Nat → Nat) (J : Nat → Nat → Int) (τ : Nat → ClassId) (X : va_W) (f : Nat → Int) : (juW aj J τ ++ X).set 4 (aj 4, .inl (τ 0, 24, .inl (fun j => iI (f j)))) = juW aj (u2 J 4 f) τ ++ X := by rw [set_left (by rw [juW_len]; decide), juW_4]
theorem s_j5 (aj : Nat → Nat) (J : Nat → Nat → Int) (τ : Nat → ClassId) (X : va_W) (f : Nat → Int) : (juW aj J τ ++ X).set 5 (aj 5, .inl (τ 0, 36, .inl (fun j => iI (f j)))) = juW aj (u2 J 5 f) τ ++ X := by rw [set_left (by rw [juW_len]; decide), juW_5]
theorem nd1 (i : Nat) : va_nd [i] = true := by simp [va_nd]
theorem nd2 {i j : Nat} (h : ¬ i = j) : va_nd [6 + i, 6 + j] = true := by simp [va_nd]; omega
/-! bounds -/
theorem sLo_r {R : Nat → Nat → Int} (hB : HB R) (s : Nat) : -1 ≤ sLo R s ∧ sLo R s < 65536 := dFirst_r R hB _ _ _
theorem sHi_r {R : Nat → Nat → Int} (hB : HB R) (s : Nat) : -1 ≤ sHi R s ∧ sHi R s < 65536 := dLast_r R hB _ _ _
theorem pow10 {n : Nat} (h : n ≤ 10) : 0 < (2 : Int) ^ (n + 1) ∧ (2 : Int) ^ (n + 1) ≤ 2048 := by
  have : ∀ m, m < 11 → 0 < (2 : Int) ^ (m + 1) ∧ (2 : Int) ^ (m + 1) ≤ 2048 := by decide
  exact this n (by omega)
theorem kSpans_r {R : Nat → Nat → Int} {n : Nat} (h : n ≤ 10) (q : Int) : 0 ≤ kSpans R n q ∧ kSpans R n q < 2048 := by
  have h1 := pow10 h
  have h2 := kRight_r R q.toNat n
  unfold kSpans
  split <;> omega
theorem sSp_r {R : Nat → Nat → Int} (hI : SI R) (s : Nat) : 0 ≤ sSp R s ∧ sSp R s < 2048 := kSpans_r (by have := hI.r; omega) _
theorem yFirst_r {R : Nat → Nat → Int} (hB : HB R) (n : Nat) {lo : Int} (h : -1 ≤ lo ∧ lo < 65536) (hi sp : Int) : -1 ≤ yFirst R n lo hi sp ∧ yFirst R n lo hi sp < 65536 := by
  have h1 := kFirst_r R hB (yFi R n lo hi sp)
  unfold yFirst yFrom
  split <;> omega
theorem sFirst_r {R : Nat → Nat → Int} (hB : HB R) (s : Nat) : -1 ≤ sFirst R s ∧ sFirst R s < 65536 := yFirst_r hB _ (sLo_r hB s) _ _
theorem ownR_r (R : Nat → Nat → Int) (s : Nat) : 0 ≤ ownR R s ∧ ownR R s ≤ 3 := by
  unfold ownR
  repeat' split
  all_goals omega
theorem rsI_r (R : Nat → Nat → Int) (i s : Nat) : 0 ≤ rsI R i s ∧ rsI R i s ≤ 4 := by
  have := ownR_r R s
  unfold rsI
  split <;> omega
theorem zand_r {a b : Int} (ha : 0 ≤ a ∧ a < 2048) : 0 ≤ zand a b ∧ zand a b < 2048 := by
  unfold zand
  have : a.toNat &&& b.toNat ≤ a.toNat := Nat.and_le_left
  omega
theorem comL_r {R : Nat → Nat → Int} (hB : HB R) (c w : Int) : ∀ n, -1 ≤ comL R c w n ∧ comL R c w n < 65536
  | 0 => by unfold comL; omega
  | n + 1 => by
    have h := comL_r hB c w n
    have h2 := sLo_r hB n
    unfold comL
    repeat' split
    all_goals omega
theorem comH_r {R : Nat → Nat → Int} (hB : HB R) (c w : Int) : ∀ n, -1 ≤ comH R c w n ∧ comH R c w n < 65536
  | 0 => by unfold comH; omega
  | n + 1 => by
    have h := comH_r hB c w n
    have h2 := sHi_r hB n
    unfold comH
    repeat' split
    all_goals omega
theorem comS_r {R : Nat → Nat → Int} (hI : SI R) (c w : Int) : ∀ n, 0 ≤ comS R c w n ∧ comS R c w n < 2048
  | 0 => by unfold comS; omega
  | n + 1 => by
    have h := comS_r hI c w n
    have h2 := sSp_r hI n
    unfold comS
    repeat' split
    · exact zand_r h
    · exact h2
    · exact h
theorem date_0 (R J : Nat → Nat → Int) : dateJ R J 0 = J := by
  funext k j
  unfold dateJ
  rw [if_neg (by omega)]
theorem date_s (R J : Nat → Nat → Int) (i : Nat) : u2 (yset (dateJ R J i) i (sLo R i) (sHi R i) (sSp R i)) 4 (updZ (yset (dateJ R J i) i (sLo R i) (sHi R i) (sSp R i) 4) i (sFirst R i)) = dateJ R J (i + 1) := by
  funext k j
  by_cases hj : j = i
  · subst hj
    by_cases h4 : k = 4
    · subst h4; simp [u2, updZ, yset, dateJ]
    · by_cases h0 : k = 0
      · subst h0; simp [u2, updZ, yset, dateJ]
      · by_cases h1 : k = 1
        · subst h1; simp [u2, updZ, yset, dateJ]
        · by_cases h2 : k = 2
          · subst h2; simp [u2, updZ, yset, dateJ]
          · simp [u2, yset, dateJ, h0, h1, h2, h4]
  · have e1 : (j < i + 1) = (j < i) := by apply propext; omega
    by_cases h4 : k = 4
    · subst h4; simp [u2, updZ, yset, dateJ, hj, e1]
    · simp only [u2, updZ, yset, dateJ, if_neg hj, if_neg h4, e1]
