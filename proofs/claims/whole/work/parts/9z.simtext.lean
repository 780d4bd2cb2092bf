/-! fault and text, of whatever sort -/
theorem isR2 {x : Int32} (h0 : x ≠ 0) (h1 : x ≠ 1) (h2 : x ≠ 2) : isR 0 2 x = 0 := by
  unfold isR
  by_cases q1 : x < nI 0
  · rw [if_pos q1]
  · rw [if_neg q1]
    by_cases q2 : nI 2 < x
    · rw [if_pos q2]
    · exfalso
      obtain ⟨-, j, j1, j2⟩ := (isS_ty 3 x (by omega)).resolve_left fun p => by
        rcases isS_0 p with z | ⟨z1, z2⟩
        · exact q1 z
        · exact q2 (Int32.lt_of_lt_of_le (by decide) z2)
      have : j = 0 ∨ j = 1 ∨ j = 2 := by omega
      rcases this with rfl | rfl | rfl
      · exact h0 j2
      · exact h1 j2
      · exact h2 j2
theorem sim_fault (x : Int32) : Sim2 (fun σ => f_Game_fault σ x) (fun σ => f_Model_fault σ x) := fun A σ hA hC hM => by
  by_cases h0 : x = 0
  · subst h0; exact (fault_city hA).two hA hC hM
  · by_cases h1 : x = 1
    · subst h1; exact (fault_law hA).two hA hC hM
    · by_cases h2 : x = 2
      · subst h2; exact (fault_day hA).two hA hC hM
      · refine SimA.two (SimA.ro hA ⟨-2, fun σ hC => ⟨σ, ?_, SC.refl _ _ _⟩, fun σ hM => ⟨_, ?_, SM_0 (v := 0) hM⟩⟩) hA hC hM
        · show f_Game_fault σ x = _
          unfold f_Game_fault
          rw [if_neg h0, if_neg h1, if_neg h2]
        · show f_Model_fault σ x = _
          unfold f_Model_fault
          rw [show (2 : Int64) = lN 2 from rfl, show (0 : Int64) = lN 0 from rfl, Model_isInR (by omega) (by omega), Option.bind_some, isR2 h0 h1 h2, if_pos rfl]
theorem sim_text (x : Int32) : Sim2 (fun σ => f_Game_text σ x) (fun σ => f_Model_text σ x) := fun A σ hA hC hM => by
  by_cases h0 : x = 0
  · subst h0; exact text_city hA hC hM
  · by_cases h1 : x = 1
    · subst h1; exact (text_law hA).two hA hC hM
    · by_cases h2 : x = 2
      · subst h2; exact (text_day hA).two hA hC hM
      · refine SimA.two (SimA.ro hA ⟨-1, fun σ hC => ⟨σ, ?_, SC.refl _ _ _⟩, fun σ hM => ⟨_, ?_, SM_0 (v := 0) hM⟩⟩) hA hC hM
        · show f_Game_text σ x = _
          unfold f_Game_text f_Game_fault
          rw [if_neg h0, if_neg h1, if_neg h2, Option.bind_some]
          dsimp only
          rw [if_neg (show ¬ (-2 : Int32) = -1 by decide)]
        · show f_Model_text σ x = _
          unfold f_Model_text
          rw [show (2 : Int64) = lN 2 from rfl, show (0 : Int64) = lN 0 from rfl, Model_isInR (by omega) (by omega), Option.bind_some, isR2 h0 h1 h2, if_pos rfl]
