/-! the tables at the start: the classes of the rows -/
theorem ty_prim {args : Array Value} {s : State} {ty : FieldType} (harr : (Cond.arrayClass ty).before args s = true) (hno : ∀ C : String, ty ≠ .object C) : ∃ cA : ClassId, ArrOfT s cA ty ∧ va_RA s cA ty := by
  obtain ⟨cA, kA, comp, hfind, hk, hkind⟩ := Cond.arrayClass_spec harr
  refine ⟨cA, fun n z => ⟨fun k h => (by cases h), kA, hk, comp, hkind⟩, ?_⟩
  cases ty with
  | object C => exact absurd rfl (hno C)
  | _ => exact hfind
theorem ty_obj {s : State} {C : String} (h : va_AO C s) : ∃ cA : ClassId, ArrOfT s cA (.object C) ∧ va_RA s cA (.object C) := by
  obtain ⟨comp, c, k, h1, h2, h3, h4, h5⟩ := Cond.arrayOver_spec h
  exact ⟨c, fun n z => ⟨fun k h => (by cases h), k, h3, comp, h4⟩, k, comp, h3, h4, h1, h5⟩
theorem KI_of {g : va_G} {args : Array Value} {s : State} (hcl : ∀ (c : Nat) (q : vw_C), vwCl[c]? = some q → u_Kn s q.1 q.2.1 q.2.2 (g.1 c) (g.2 c)) (h0 : (Cond.arrayClass .int).before args s = true) (h1 : (Cond.arrayClass .boolean).before args s = true) (h2 : (Cond.arrayClass .char).before args s = true) (h5 : (Cond.arrayClass .long).before args s = true) (h3 : va_AO RX8 s) (h4 : va_AO RX6 s) (hN : NWs s) : ∃ τ : Nat → ClassId, KI g τ s := by
  obtain ⟨c0, a0⟩ := ty_prim h0 (fun C h => by cases h)
  obtain ⟨c1, a1⟩ := ty_prim h1 (fun C h => by cases h)
  obtain ⟨c2, a2⟩ := ty_prim h2 (fun C h => by cases h)
  obtain ⟨c3, a3⟩ := ty_obj h3
  obtain ⟨c4, a4⟩ := ty_obj h4
  obtain ⟨c5, a5⟩ := ty_prim h5 (fun C h => by cases h)
  refine ⟨fun k => ([c0, c1, c2, c3, c4, c5] : List ClassId).getD k c0, ⟨⟨hcl, fun k q hk => ?_⟩, hN⟩, h3, h4⟩
  rcases k with _ | _ | _ | _ | _ | _ | k
  · cases hk; exact a0
  · cases hk; exact a1
  · cases hk; exact a2
  · cases hk; exact a3
  · cases hk; exact a4
  · cases hk; exact a5
  · cases hk
