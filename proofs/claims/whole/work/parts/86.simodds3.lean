/-! odds answers alike -/
theorem sim_odds (s z e : Int32) : Sim (fun σ => f_Game_odds σ s z e) (fun σ => f_Model_odds σ s z e) := Sim.ro fun A hA => by
  have t8 := hA.T8
  have b6 := hA.B6
  have e0 : (0 : Int64) = lN 0 := rfl
  have no : (∀ σ, CRel σ A → f_Game_odds σ s z e = some (-1, σ)) → (∀ σ, MRel σ A → f_Model_odds σ s z e = some (-1, sI σ 565 0 0)) → ∃ r, (∀ σ, CRel σ A → ∃ σ', (fun σ => f_Game_odds σ s z e) σ = some (r, σ') ∧ SC (gL A).1 (gD A).1 σ σ') ∧ (∀ σ, MRel σ A → ∃ σ', (fun σ => f_Model_odds σ s z e) σ = some (r, σ') ∧ SM (gL A).1 (gL A).2.1 σ σ') := fun h1 h2 =>
    ⟨-1, fun σ hC => ⟨σ, h1 σ hC, SC.refl _ _ _⟩, fun σ hM => ⟨_, h2 σ hM, SM_0 (v := 0) hM⟩⟩
  rcases hA.cs with p | hc
  · refine no (fun σ hC => ?_) (fun σ hM => ?_)
    · unfold f_Game_odds; rw [Trade_hasCity hC.k t8, if_pos p.1]; rfl
    · unfold f_Model_odds
      rw [(hM.z (v := 0) hA).k.2.1, p.2.1, if_pos (show nI 0 = (0 : Int32) from rfl)]
  · have hT1 := hc.1
    have hB1 := hc.2.1
    have cq : ∀ σ, CRel σ A → f_Game_odds σ s z e = if s < 0 then some (-1, σ) else if (6 : Int32) < s then some (-1, σ) else if z < 0 then some (-1, σ) else if (999 : Int32) < z then some (-1, σ) else if e < 0 then some (-1, σ) else if e ≤ 100 then (f_PR 8 0 σ 6 s (1000000000 : Int32) z e).bind fun q9 => some (q9.1, q9.2) else some (-1, σ) := fun σ hC => by
      unfold f_Game_odds
      rw [Trade_hasCity hC.k t8, if_neg (by omega), Option.bind_some, if_neg (by decide)]
    have mq : ∀ σ, MRel σ A → f_Model_odds σ s z e = if isR 0 6 s = 0 then some (-1, sI σ 565 0 0) else if isR 0 999 z = 0 then some (-1, sI σ 565 0 0) else if isR 0 100 e = 0 then some (-1, sI σ 565 0 0) else (f_Model_copy (sI σ 565 0 0) 578 579).bind fun q8 => (f_OF 8 0 q8 s z e (1000000000 : Int32)).bind fun q9 => some (q9.1, q9.2) := fun σ hM => by
      unfold f_Model_odds
      rw [(hM.z (v := 0) hA).k.2.1, if_neg (nI_ne0 (by omega) (by omega)), e0, show (6 : Int64) = lN 6 from rfl, show (999 : Int64) = lN 999 from rfl, show (100 : Int64) = lN 100 from rfl, Model_isInR (by omega) (by omega), Option.bind_some, Model_isInR (by omega) (by omega), Option.bind_some, Model_isInR (by omega) (by omega), Option.bind_some]
    rcases rng0 6 s (by omega) with ⟨q1, q2⟩ | ⟨q1, q2, q3⟩ | ⟨q1, n, n2, rfl⟩
    · exact no (fun σ hC => by rw [cq σ hC, if_pos q1]) (fun σ hM => by rw [mq σ hM, if_pos q2])
    · exact no (fun σ hC => by rw [cq σ hC, if_neg q1, if_pos (show (6 : Int32) < s from q2)]) (fun σ hM => by rw [mq σ hM, if_pos q3])
    have a1 : ¬ nI n < (0 : Int32) := nI_nlt (b := 0) (by omega) (by omega)
    have a2 : ¬ (6 : Int32) < nI n := nI_nlt (a := 6) n2 (by omega)
    have a3 : ¬ isR 0 6 (nI n) = 0 := by rw [q1]; decide
    rcases rng0 999 z (by omega) with ⟨q1, q2⟩ | ⟨q1, q2, q3⟩ | ⟨q1, m, m2, rfl⟩
    · exact no (fun σ hC => by rw [cq σ hC, if_neg a1, if_neg a2, if_pos q1]) (fun σ hM => by rw [mq σ hM, if_neg a3, if_pos q2])
    · exact no (fun σ hC => by rw [cq σ hC, if_neg a1, if_neg a2, if_neg q1, if_pos (show (999 : Int32) < z from q2)]) (fun σ hM => by rw [mq σ hM, if_neg a3, if_pos q3])
    have a4 : ¬ nI m < (0 : Int32) := nI_nlt (b := 0) (by omega) (by omega)
    have a5 : ¬ (999 : Int32) < nI m := nI_nlt (a := 999) m2 (by omega)
    have a6 : ¬ isR 0 999 (nI m) = 0 := by rw [q1]; decide
    rcases rng0 100 e (by omega) with ⟨q1, q2⟩ | ⟨q1, q2, q3⟩ | ⟨q1, k, k2, rfl⟩
    · exact no (fun σ hC => by rw [cq σ hC, if_neg a1, if_neg a2, if_neg a4, if_neg a5, if_pos q1]) (fun σ hM => by rw [mq σ hM, if_neg a3, if_neg a6, if_pos q2])
    · exact no (fun σ hC => by rw [cq σ hC, if_neg a1, if_neg a2, if_neg a4, if_neg a5, if_neg q1, if_neg (show ¬ e ≤ (100 : Int32) from Int32.not_le.mpr q2)]) (fun σ hM => by rw [mq σ hM, if_neg a3, if_neg a6, if_pos q3])
    have a7 : ¬ nI k < (0 : Int32) := nI_nlt (b := 0) (by omega) (by omega)
    have a8 : nI k ≤ (100 : Int32) := nI_le (b := 100) k2 (by omega)
    have a9 : ¬ isR 0 100 (nI k) = 0 := by rw [q1]; decide
    have eP : (1000000000 : Int32) = nI 1000000000 := rfl
    refine ⟨nI (odS (gK A) (nI m) k n (gW A) 1000000000), fun σ hC => ?_, fun σ hM => ?_⟩
    · obtain ⟨σ', g1, g2⟩ := PR_all (y := nI m) hA hc k2 n n2 8 6 (gW A) 10000 1000000000 σ (by omega) (by omega) (Or.inl rfl) hC (hC.n hc).1 hc.2.2.2.1.1 (by omega)
      refine ⟨σ', ?_, SC_px hA hC n2 g2⟩
      show f_Game_odds σ (nI n) (nI m) (nI k) = _
      rw [cq σ hC, if_neg a1, if_neg a2, if_neg a4, if_neg a5, if_neg a7, if_pos a8, eP, g1]
      rfl
    · have hz := hM.z (v := 0) hA
      obtain ⟨σ1, g1, g2⟩ := TR_copy hA hz
      obtain ⟨σ', g3, g4⟩ := OF_all (y := nI m) hA hc k2 n n2 8 (gW A) 10000 1000000000 σ1 (by omega) (by omega) (hz.scr hA g2.sm) g2.1 rfl hc.2.2.2.1.1 (by omega)
      refine ⟨σ', ?_, ((SM_0 (v := 0) hM).trans g2.sm).trans g4.1⟩
      show f_Model_odds σ (nI n) (nI m) (nI k) = _
      rw [mq σ hM, if_neg a3, if_neg a6, if_neg a9, g1, Option.bind_some, eP, g3]
      rfl
