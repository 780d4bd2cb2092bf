/-! the law: what the state knows of the classes -/
theorem in_all (c : Nat) (h : c < 12) : Cond.instantiable (clC c) (nF c) ∈ ALL := by
  match c, h with
  | 0, _ => exact in_0
  | 1, _ => exact in_1
  | 2, _ => exact in_2
  | 3, _ => exact in_3
  | 4, _ => exact in_4
  | 5, _ => exact in_5
  | 6, _ => exact in_6
  | 7, _ => exact in_7
  | 8, _ => exact in_8
  | 9, _ => exact in_9
  | 10, _ => exact in_10
  | 11, _ => exact in_11
theorem kn_cls {s : State} {A : Array Value} (hts : ∀ w ∈ ALL, w.before A s = true) : ∃ D : va_G, ∀ (c : Nat) (q : vw_C), vwCl[c]? = some q → u_Kn s q.1 q.2.1 q.2.2 (D.1 c) (D.2 c) := by
  have h : ∀ c, ∃ p : ClassId × (Nat → Nat), c < 12 → u_Kn s (clC c) (clT c) (nF c) p.1 p.2 := fun c => by
    by_cases hc : c < 12
    · obtain ⟨c0, iS, hK⟩ := u_known (C := clC c) (T := clT c) (N := nF c) (n := nF c) hts (cl_in c hc) (hts _ (in_all c hc))
      exact ⟨(c0, iS), fun _ => hK⟩
    · exact ⟨((0 : Nat), fun _ => 0), fun h => absurd h hc⟩
  refine ⟨(fun c => (Classical.choose (h c)).1, fun c => (Classical.choose (h c)).2), fun c q hq => ?_⟩
  have hc : c < 12 := (List.getElem?_eq_some_iff.mp hq).1
  rw [cl_ok c hc] at hq
  cases hq
  exact Classical.choose_spec (h c) hc
