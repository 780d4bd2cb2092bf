/-! the law: arrays' classes -/
theorem kn_prim {s : State} {A : Array Value} {ty : FieldType} (h : (Cond.arrayClass ty).before A s = true) : ∃ cA : ClassId, ArrOfT s cA ty ∧ s.vm.findClass ("[" ++ ty.toString) = some cA := by
  obtain ⟨cA, kA, comp, h1, h2, h3⟩ := Cond.arrayClass_spec h
  exact ⟨cA, fun n z => ⟨fun k h => (by cases h), kA, h2, comp, h3⟩, h1⟩
theorem kn_over {s : State} {C : String} (h : va_AO C s) : ∃ cA : ClassId, ArrOfT s cA (.object C) ∧ va_RA s cA (.object C) := by
  obtain ⟨comp, cA, kA, h1, h2, h3, h4, h5⟩ := Cond.arrayOver_spec (va_AO.use (A := #[]) h)
  exact ⟨cA, fun n z => ⟨fun k h => (by cases h), kA, h3, comp, h4⟩, kA, comp, h3, h4, h1, h5⟩
theorem kn_arr {s : State} {A : Array Value} (hts : ∀ w ∈ ALL, w.before A s = true) (N : Nx s) : ∃ f : Nat → ClassId, ∀ (k : Nat) (q : ClassId × FieldType), ([(f 13, FieldType.int), (f 14, .byte), (f 15, .boolean), (f 16, .long), (f 17, .object RX5), (f 18, .object RX2), (f 19, .object RX7)] : List (ClassId × FieldType))[k]? = some q → ArrOfT s q.1 q.2 ∧ va_RA s q.1 q.2 := by
  obtain ⟨c13, a1, a2⟩ := kn_prim (hts _ acI)
  obtain ⟨c14, b1, b2⟩ := kn_prim (hts _ acB)
  obtain ⟨c15, d1, d2⟩ := kn_prim (hts _ acZ)
  obtain ⟨c16, e1, e2⟩ := kn_prim (hts _ acL)
  obtain ⟨c17, g1, g2⟩ := kn_over N.2.1
  obtain ⟨c18, i1, i2⟩ := kn_over N.2.2.1
  obtain ⟨c19, j1, j2⟩ := kn_over N.2.2.2
  refine ⟨fun k => if k = 13 then c13 else if k = 14 then c14 else if k = 15 then c15 else if k = 16 then c16 else if k = 17 then c17 else if k = 18 then c18 else c19, fun k q hq => ?_⟩
  have hk : k < 7 := (List.getElem?_eq_some_iff.mp hq).1
  have hk : k = 0 ∨ k = 1 ∨ k = 2 ∨ k = 3 ∨ k = 4 ∨ k = 5 ∨ k = 6 := by omega
  rcases hk with rfl | rfl | rfl | rfl | rfl | rfl | rfl
  · cases hq; exact ⟨a1, a2⟩
  · cases hq; exact ⟨b1, b2⟩
  · cases hq; exact ⟨d1, d2⟩
  · cases hq; exact ⟨e1, e2⟩
  · cases hq; exact ⟨g1, g2⟩
  · cases hq; exact ⟨i1, i2⟩
  · cases hq; exact ⟨j1, j2⟩
/-- class ids and slots, for whatever else θ holds -/
theorem Kn_of {s : State} {A : Array Value} (hts : ∀ w ∈ ALL, w.before A s = true) (N : Nx s) : ∃ (D : va_G) (f : Nat → ClassId), ∀ (b : Nat) (t sa sv : Nat → Nat), Kn (D, f, b, t, sa, sv) s := by
  obtain ⟨D, hD⟩ := kn_cls hts
  obtain ⟨f, hf⟩ := kn_arr hts N
  exact ⟨D, f, fun b t sa sv => ⟨hD, hf⟩⟩
