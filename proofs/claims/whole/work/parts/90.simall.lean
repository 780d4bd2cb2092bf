/-! all answers alike -/
theorem sim_all (x : Int32) : Sim (fun σ => f_Game_all σ x) (fun σ => f_Model_all σ x) := Sim.ro fun A hA => by
  have t8 := hA.T8
  have b6 := hA.B6
  rcases hA.cs with p | hc
  · refine ⟨-1000000, fun σ hC => ⟨σ, ?_, SC.refl _ _ _⟩, fun σ hM => ⟨_, ?_, SM_0 (v := 0) hM⟩⟩
    · unfold f_Game_all; rw [Trade_hasCity hC.k t8, if_pos p.1]; rfl
    · unfold f_Model_all
      rw [(hM.z (v := 0) hA).k.2.1, p.2.1, if_pos (show nI 0 = (0 : Int32) from rfl)]
  have hT1 := hc.1
  have hB1 := hc.2.1
  obtain ⟨nT, hT⟩ : ∃ n, cT (gK A) = n + 1 := ⟨cT (gK A) - 1, by omega⟩
  obtain ⟨nB, hB⟩ : ∃ n, cB (gK A) = n + 1 := ⟨cB (gK A) - 1, by omega⟩
  obtain ⟨n, n1, n2, -⟩ := hc.2.2.2.1.1.1
  by_cases h0 : x = 0
  · subst h0
    have hm : msN A 0 = nB + 1 := by unfold msN; rw [if_pos (show 0 ≤ 3 by omega)]; exact hB
    refine ⟨nI (fgS (msS A 0) nB), fun σ hC => ?_, fun σ hM => ?_⟩
    · obtain ⟨σ1, g1, g2⟩ := fg_class (x := 0) (X := 0) hA hc hC (Or.inl ⟨by omega, rfl⟩) hm (by omega)
      refine ⟨σ1, ?_, g2⟩
      unfold f_Game_all
      rw [Trade_hasCity hC.k t8, if_neg (by omega), Option.bind_some, if_neg (show ¬ (1 : Int32) = 0 by decide), if_pos (show (0 : Int32) = (0 : Int32) from rfl), if_pos hC.k.1, hC.k.2.2.2.1, hB, g1]
      rfl
    · obtain ⟨σ1, g1, g2⟩ := fg_model (x := 0) hA hc (hM.z (v := 0) hA) (by omega) hm (by omega)
      refine ⟨σ1, ?_, (SM_0 (v := 0) hM).trans g2⟩
      unfold f_Model_all
      rw [(hM.z (v := 0) hA).k.2.1, if_neg (nI_ne0 (by omega) (by omega)), if_pos (show (0 : Int32) = (0 : Int32) from rfl), show f_Model_greatest (sI σ 565 0 0) (0 : Int32) = _ from g1]
      rfl
  by_cases h1 : x = 1
  · subst h1
    have hm : msN A 1 = nB + 1 := by unfold msN; rw [if_pos (show 1 ≤ 3 by omega)]; exact hB
    refine ⟨nI (fgS (msS A 1) nB), fun σ hC => ?_, fun σ hM => ?_⟩
    · obtain ⟨σ1, g1, g2⟩ := fg_class (x := 1) (X := 1) hA hc hC (Or.inl ⟨by omega, rfl⟩) hm (by omega)
      refine ⟨σ1, ?_, g2⟩
      unfold f_Game_all
      rw [Trade_hasCity hC.k t8, if_neg (by omega), Option.bind_some, if_neg (show ¬ (1 : Int32) = 0 by decide), if_neg (show ¬ (1 : Int32) = (0 : Int32) by decide), if_pos (show (1 : Int32) = (1 : Int32) from rfl), if_pos hC.k.1, hC.k.2.2.2.1, hB, g1]
      rfl
    · obtain ⟨σ1, g1, g2⟩ := fg_model (x := 1) hA hc (hM.z (v := 0) hA) (by omega) hm (by omega)
      refine ⟨σ1, ?_, (SM_0 (v := 0) hM).trans g2⟩
      unfold f_Model_all
      rw [(hM.z (v := 0) hA).k.2.1, if_neg (nI_ne0 (by omega) (by omega)), if_neg (show ¬ (1 : Int32) = (0 : Int32) by decide), if_pos (show (1 : Int32) = (1 : Int32) from rfl), show f_Model_greatest (sI σ 565 0 0) (1 : Int32) = _ from g1]
      rfl
  by_cases h2 : x = 2
  · subst h2
    have hm : msN A 2 = nB + 1 := by unfold msN; rw [if_pos (show 2 ≤ 3 by omega)]; exact hB
    refine ⟨nI (fgS (msS A 2) nB), fun σ hC => ?_, fun σ hM => ?_⟩
    · obtain ⟨σ1, g1, g2⟩ := fg_class (x := 2) (X := 2) hA hc hC (Or.inl ⟨by omega, rfl⟩) hm (by omega)
      refine ⟨σ1, ?_, g2⟩
      unfold f_Game_all
      rw [Trade_hasCity hC.k t8, if_neg (by omega), Option.bind_some, if_neg (show ¬ (1 : Int32) = 0 by decide), if_neg (show ¬ (2 : Int32) = (0 : Int32) by decide), if_neg (show ¬ (2 : Int32) = (1 : Int32) by decide), if_pos (show (2 : Int32) = (2 : Int32) from rfl), if_pos hC.k.1, hC.k.2.2.2.1, hB, g1]
      rfl
    · obtain ⟨σ1, g1, g2⟩ := fg_model (x := 2) hA hc (hM.z (v := 0) hA) (by omega) hm (by omega)
      refine ⟨σ1, ?_, (SM_0 (v := 0) hM).trans g2⟩
      unfold f_Model_all
      rw [(hM.z (v := 0) hA).k.2.1, if_neg (nI_ne0 (by omega) (by omega)), if_neg (show ¬ (2 : Int32) = (0 : Int32) by decide), if_neg (show ¬ (2 : Int32) = (1 : Int32) by decide), if_pos (show (2 : Int32) = (2 : Int32) from rfl), show f_Model_greatest (sI σ 565 0 0) (2 : Int32) = _ from g1]
      rfl
  by_cases h3 : x = 3
  · subst h3
    have hm : msN A 3 = nB + 1 := by unfold msN; rw [if_pos (show 3 ≤ 3 by omega)]; exact hB
    refine ⟨nI (fgS (msS A 3) nB), fun σ hC => ?_, fun σ hM => ?_⟩
    · obtain ⟨σ1, g1, g2⟩ := fg_class (x := 3) (X := 3) hA hc hC (Or.inl ⟨by omega, rfl⟩) hm (by omega)
      refine ⟨σ1, ?_, g2⟩
      unfold f_Game_all
      rw [Trade_hasCity hC.k t8, if_neg (by omega), Option.bind_some, if_neg (show ¬ (1 : Int32) = 0 by decide), if_neg (show ¬ (3 : Int32) = (0 : Int32) by decide), if_neg (show ¬ (3 : Int32) = (1 : Int32) by decide), if_neg (show ¬ (3 : Int32) = (2 : Int32) by decide), if_pos (show (3 : Int32) = (3 : Int32) from rfl), if_pos hC.k.1, hC.k.2.2.2.1, hB, g1]
      rfl
    · obtain ⟨σ1, g1, g2⟩ := fg_model (x := 3) hA hc (hM.z (v := 0) hA) (by omega) hm (by omega)
      refine ⟨σ1, ?_, (SM_0 (v := 0) hM).trans g2⟩
      unfold f_Model_all
      rw [(hM.z (v := 0) hA).k.2.1, if_neg (nI_ne0 (by omega) (by omega)), if_neg (show ¬ (3 : Int32) = (0 : Int32) by decide), if_neg (show ¬ (3 : Int32) = (1 : Int32) by decide), if_neg (show ¬ (3 : Int32) = (2 : Int32) by decide), if_pos (show (3 : Int32) = (3 : Int32) from rfl), show f_Model_greatest (sI σ 565 0 0) (3 : Int32) = _ from g1]
      rfl
  by_cases h4 : x = 4
  · subst h4
    have hm : msN A 4 = nT + 1 := by unfold msN; rw [if_neg (show ¬ 4 ≤ 3 by omega)]; exact hT
    refine ⟨nI (fgS (msS A 4) nT), fun σ hC => ?_, fun σ hM => ?_⟩
    · obtain ⟨σ1, g1, g2⟩ := fg_class (x := 4) (X := 4) hA hc hC (Or.inl ⟨by omega, rfl⟩) hm (by omega)
      refine ⟨σ1, ?_, g2⟩
      unfold f_Game_all
      rw [Trade_hasCity hC.k t8, if_neg (by omega), Option.bind_some, if_neg (show ¬ (1 : Int32) = 0 by decide), if_neg (show ¬ (4 : Int32) = (0 : Int32) by decide), if_neg (show ¬ (4 : Int32) = (1 : Int32) by decide), if_neg (show ¬ (4 : Int32) = (2 : Int32) by decide), if_neg (show ¬ (4 : Int32) = (3 : Int32) by decide), if_pos (show (4 : Int32) = (4 : Int32) from rfl), if_pos hC.k.1, hC.k.2.2.1, hT, g1]
      rfl
    · obtain ⟨σ1, g1, g2⟩ := fg_model (x := 4) hA hc (hM.z (v := 0) hA) (by omega) hm (by omega)
      refine ⟨σ1, ?_, (SM_0 (v := 0) hM).trans g2⟩
      unfold f_Model_all
      rw [(hM.z (v := 0) hA).k.2.1, if_neg (nI_ne0 (by omega) (by omega)), if_neg (show ¬ (4 : Int32) = (0 : Int32) by decide), if_neg (show ¬ (4 : Int32) = (1 : Int32) by decide), if_neg (show ¬ (4 : Int32) = (2 : Int32) by decide), if_neg (show ¬ (4 : Int32) = (3 : Int32) by decide), if_pos (show (4 : Int32) = (4 : Int32) from rfl), show f_Model_greatest (sI σ 565 0 0) (4 : Int32) = _ from g1]
      rfl
  by_cases h5 : x = 5
  · subst h5
    have hm : msN A 5 = nT + 1 := by unfold msN; rw [if_neg (show ¬ 5 ≤ 3 by omega)]; exact hT
    refine ⟨nI (fgS (msS A 5) nT), fun σ hC => ?_, fun σ hM => ?_⟩
    · obtain ⟨σ1, g1, g2⟩ := fg_class (x := 5) (X := 5) hA hc hC (Or.inl ⟨by omega, rfl⟩) hm (by omega)
      refine ⟨σ1, ?_, g2⟩
      unfold f_Game_all
      rw [Trade_hasCity hC.k t8, if_neg (by omega), Option.bind_some, if_neg (show ¬ (1 : Int32) = 0 by decide), if_neg (show ¬ (5 : Int32) = (0 : Int32) by decide), if_neg (show ¬ (5 : Int32) = (1 : Int32) by decide), if_neg (show ¬ (5 : Int32) = (2 : Int32) by decide), if_neg (show ¬ (5 : Int32) = (3 : Int32) by decide), if_neg (show ¬ (5 : Int32) = (4 : Int32) by decide), if_pos (show (5 : Int32) = (5 : Int32) from rfl), if_pos hC.k.1, hC.k.2.2.1, hT, g1]
      rfl
    · obtain ⟨σ1, g1, g2⟩ := fg_model (x := 5) hA hc (hM.z (v := 0) hA) (by omega) hm (by omega)
      refine ⟨σ1, ?_, (SM_0 (v := 0) hM).trans g2⟩
      unfold f_Model_all
      rw [(hM.z (v := 0) hA).k.2.1, if_neg (nI_ne0 (by omega) (by omega)), if_neg (show ¬ (5 : Int32) = (0 : Int32) by decide), if_neg (show ¬ (5 : Int32) = (1 : Int32) by decide), if_neg (show ¬ (5 : Int32) = (2 : Int32) by decide), if_neg (show ¬ (5 : Int32) = (3 : Int32) by decide), if_neg (show ¬ (5 : Int32) = (4 : Int32) by decide), if_pos (show (5 : Int32) = (5 : Int32) from rfl), show f_Model_greatest (sI σ 565 0 0) (5 : Int32) = _ from g1]
      rfl
  by_cases h6 : x = 6
  · subst h6
    refine ⟨hbS (gW A) (cT (gK A)) (cB (gK A)), fun σ hC => ⟨σ, ?_, SC.refl _ _ _⟩, fun σ hM => ⟨_, ?_, SM_0 (v := 0) hM⟩⟩
    · unfold f_Game_all
      rw [Trade_hasCity hC.k t8, if_neg (by omega), Option.bind_some, if_neg (show ¬ (1 : Int32) = 0 by decide), if_neg (show ¬ (6 : Int32) = (0 : Int32) by decide), if_neg (show ¬ (6 : Int32) = (1 : Int32) by decide), if_neg (show ¬ (6 : Int32) = (2 : Int32) by decide), if_neg (show ¬ (6 : Int32) = (3 : Int32) by decide), if_neg (show ¬ (6 : Int32) = (4 : Int32) by decide), if_neg (show ¬ (6 : Int32) = (5 : Int32) by decide), if_pos (show (6 : Int32) = (6 : Int32) from rfl), State_holders (hC.n hc).1, hbS_6 b6 hc.2.2.2.1.1]
      rfl
    · unfold f_Model_all
      rw [(hM.z (v := 0) hA).k.2.1, if_neg (nI_ne0 (by omega) (by omega)), if_neg (show ¬ (6 : Int32) = (0 : Int32) by decide), if_neg (show ¬ (6 : Int32) = (1 : Int32) by decide), if_neg (show ¬ (6 : Int32) = (2 : Int32) by decide), if_neg (show ¬ (6 : Int32) = (3 : Int32) by decide), if_neg (show ¬ (6 : Int32) = (4 : Int32) by decide), if_neg (show ¬ (6 : Int32) = (5 : Int32) by decide), if_pos (show (6 : Int32) = (6 : Int32) from rfl), Model_holders (Or.inl rfl) t8 b6 (hM.z (v := 0) hA).k, (hM.z (v := 0) hA).w]
      rfl
  by_cases h7 : x = 7
  · subst h7
    refine ⟨mkS (fr7 A) (cT (gK A)), fun σ hC => ⟨σ, ?_, SC.refl _ _ _⟩, fun σ hM => ⟨_, ?_, SM_0 (v := 0) hM⟩⟩
    · unfold f_Game_all
      rw [Trade_hasCity hC.k t8, if_neg (by omega), Option.bind_some, if_neg (show ¬ (1 : Int32) = 0 by decide), if_neg (show ¬ (7 : Int32) = (0 : Int32) by decide), if_neg (show ¬ (7 : Int32) = (1 : Int32) by decide), if_neg (show ¬ (7 : Int32) = (2 : Int32) by decide), if_neg (show ¬ (7 : Int32) = (3 : Int32) by decide), if_neg (show ¬ (7 : Int32) = (4 : Int32) by decide), if_neg (show ¬ (7 : Int32) = (5 : Int32) by decide), if_neg (show ¬ (7 : Int32) = (6 : Int32) by decide), if_pos (show (7 : Int32) = (7 : Int32) from rfl), free_class hA hc hC]
      rfl
    · unfold f_Model_all
      rw [(hM.z (v := 0) hA).k.2.1, if_neg (nI_ne0 (by omega) (by omega)), if_neg (show ¬ (7 : Int32) = (0 : Int32) by decide), if_neg (show ¬ (7 : Int32) = (1 : Int32) by decide), if_neg (show ¬ (7 : Int32) = (2 : Int32) by decide), if_neg (show ¬ (7 : Int32) = (3 : Int32) by decide), if_neg (show ¬ (7 : Int32) = (4 : Int32) by decide), if_neg (show ¬ (7 : Int32) = (5 : Int32) by decide), if_neg (show ¬ (7 : Int32) = (6 : Int32) by decide), if_pos (show (7 : Int32) = (7 : Int32) from rfl), free_model hA (hM.z (v := 0) hA)]
      rfl
  by_cases h8 : x = 8
  · subst h8
    refine ⟨mkS (so8 A) (cT (gK A)), fun σ hC => ⟨σ, ?_, SC.refl _ _ _⟩, fun σ hM => ⟨_, ?_, SM_0 (v := 0) hM⟩⟩
    · unfold f_Game_all
      rw [Trade_hasCity hC.k t8, if_neg (by omega), Option.bind_some, if_neg (show ¬ (1 : Int32) = 0 by decide), if_neg (show ¬ (8 : Int32) = (0 : Int32) by decide), if_neg (show ¬ (8 : Int32) = (1 : Int32) by decide), if_neg (show ¬ (8 : Int32) = (2 : Int32) by decide), if_neg (show ¬ (8 : Int32) = (3 : Int32) by decide), if_neg (show ¬ (8 : Int32) = (4 : Int32) by decide), if_neg (show ¬ (8 : Int32) = (5 : Int32) by decide), if_neg (show ¬ (8 : Int32) = (6 : Int32) by decide), if_neg (show ¬ (8 : Int32) = (7 : Int32) by decide), if_pos (show (8 : Int32) = (8 : Int32) from rfl), sold_class hA hc hC]
      rfl
    · unfold f_Model_all
      rw [(hM.z (v := 0) hA).k.2.1, if_neg (nI_ne0 (by omega) (by omega)), if_neg (show ¬ (8 : Int32) = (0 : Int32) by decide), if_neg (show ¬ (8 : Int32) = (1 : Int32) by decide), if_neg (show ¬ (8 : Int32) = (2 : Int32) by decide), if_neg (show ¬ (8 : Int32) = (3 : Int32) by decide), if_neg (show ¬ (8 : Int32) = (4 : Int32) by decide), if_neg (show ¬ (8 : Int32) = (5 : Int32) by decide), if_neg (show ¬ (8 : Int32) = (6 : Int32) by decide), if_neg (show ¬ (8 : Int32) = (7 : Int32) by decide), if_pos (show (8 : Int32) = (8 : Int32) from rfl), sold_model hA (hM.z (v := 0) hA)]
      rfl
  by_cases h9 : x = 9
  · subst h9
    refine ⟨mkS (af9 A) (cB (gK A)), fun σ hC => ⟨σ, ?_, SC.refl _ _ _⟩, fun σ hM => ⟨_, ?_, SM_0 (v := 0) hM⟩⟩
    · unfold f_Game_all
      rw [Trade_hasCity hC.k t8, if_neg (by omega), Option.bind_some, if_neg (show ¬ (1 : Int32) = 0 by decide), if_neg (show ¬ (9 : Int32) = (0 : Int32) by decide), if_neg (show ¬ (9 : Int32) = (1 : Int32) by decide), if_neg (show ¬ (9 : Int32) = (2 : Int32) by decide), if_neg (show ¬ (9 : Int32) = (3 : Int32) by decide), if_neg (show ¬ (9 : Int32) = (4 : Int32) by decide), if_neg (show ¬ (9 : Int32) = (5 : Int32) by decide), if_neg (show ¬ (9 : Int32) = (6 : Int32) by decide), if_neg (show ¬ (9 : Int32) = (7 : Int32) by decide), if_neg (show ¬ (9 : Int32) = (8 : Int32) by decide), if_pos (show (9 : Int32) = (9 : Int32) from rfl), afraid_class hA hc hC]
      rfl
    · unfold f_Model_all
      rw [(hM.z (v := 0) hA).k.2.1, if_neg (nI_ne0 (by omega) (by omega)), if_neg (show ¬ (9 : Int32) = (0 : Int32) by decide), if_neg (show ¬ (9 : Int32) = (1 : Int32) by decide), if_neg (show ¬ (9 : Int32) = (2 : Int32) by decide), if_neg (show ¬ (9 : Int32) = (3 : Int32) by decide), if_neg (show ¬ (9 : Int32) = (4 : Int32) by decide), if_neg (show ¬ (9 : Int32) = (5 : Int32) by decide), if_neg (show ¬ (9 : Int32) = (6 : Int32) by decide), if_neg (show ¬ (9 : Int32) = (7 : Int32) by decide), if_neg (show ¬ (9 : Int32) = (8 : Int32) by decide), if_pos (show (9 : Int32) = (9 : Int32) from rfl), afraid_model hA hc (hM.z (v := 0) hA)]
      rfl
  by_cases h10 : x = 10
  · subst h10
    refine ⟨dueA (fun k => gW A (30 + k)) n, fun σ hC => ⟨σ, ?_, SC.refl _ _ _⟩, fun σ hM => ⟨_, ?_, SM_0 (v := 0) hM⟩⟩
    · unfold f_Game_all
      rw [Trade_hasCity hC.k t8, if_neg (by omega), Option.bind_some, if_neg (show ¬ (1 : Int32) = 0 by decide), if_neg (show ¬ (10 : Int32) = (0 : Int32) by decide), if_neg (show ¬ (10 : Int32) = (1 : Int32) by decide), if_neg (show ¬ (10 : Int32) = (2 : Int32) by decide), if_neg (show ¬ (10 : Int32) = (3 : Int32) by decide), if_neg (show ¬ (10 : Int32) = (4 : Int32) by decide), if_neg (show ¬ (10 : Int32) = (5 : Int32) by decide), if_neg (show ¬ (10 : Int32) = (6 : Int32) by decide), if_neg (show ¬ (10 : Int32) = (7 : Int32) by decide), if_neg (show ¬ (10 : Int32) = (8 : Int32) by decide), if_neg (show ¬ (10 : Int32) = (9 : Int32) by decide), if_pos (show (10 : Int32) = (10 : Int32) from rfl), dueA_RS (hC.n hc).1 n1 n2]
      rfl
    · unfold f_Model_all
      rw [(hM.z (v := 0) hA).k.2.1, if_neg (nI_ne0 (by omega) (by omega)), if_neg (show ¬ (10 : Int32) = (0 : Int32) by decide), if_neg (show ¬ (10 : Int32) = (1 : Int32) by decide), if_neg (show ¬ (10 : Int32) = (2 : Int32) by decide), if_neg (show ¬ (10 : Int32) = (3 : Int32) by decide), if_neg (show ¬ (10 : Int32) = (4 : Int32) by decide), if_neg (show ¬ (10 : Int32) = (5 : Int32) by decide), if_neg (show ¬ (10 : Int32) = (6 : Int32) by decide), if_neg (show ¬ (10 : Int32) = (7 : Int32) by decide), if_neg (show ¬ (10 : Int32) = (8 : Int32) by decide), if_neg (show ¬ (10 : Int32) = (9 : Int32) by decide), if_pos (show (10 : Int32) = (10 : Int32) from rfl), Model_allDue (n := n) (by decide +kernel) (by rw [(hM.z (v := 0) hA).w]; exact n2) n1, (hM.z (v := 0) hA).w]
      rfl
  by_cases h11 : x = 11
  · subst h11
    refine ⟨gW A 128, fun σ hC => ⟨σ, ?_, SC.refl _ _ _⟩, fun σ hM => ⟨_, ?_, SM_0 (v := 0) hM⟩⟩
    · unfold f_Game_all
      rw [Trade_hasCity hC.k t8, if_neg (by omega), Option.bind_some, if_neg (show ¬ (1 : Int32) = 0 by decide), if_neg (show ¬ (11 : Int32) = (0 : Int32) by decide), if_neg (show ¬ (11 : Int32) = (1 : Int32) by decide), if_neg (show ¬ (11 : Int32) = (2 : Int32) by decide), if_neg (show ¬ (11 : Int32) = (3 : Int32) by decide), if_neg (show ¬ (11 : Int32) = (4 : Int32) by decide), if_neg (show ¬ (11 : Int32) = (5 : Int32) by decide), if_neg (show ¬ (11 : Int32) = (6 : Int32) by decide), if_neg (show ¬ (11 : Int32) = (7 : Int32) by decide), if_neg (show ¬ (11 : Int32) = (8 : Int32) by decide), if_neg (show ¬ (11 : Int32) = (9 : Int32) by decide), if_neg (show ¬ (11 : Int32) = (10 : Int32) by decide), if_pos (show (11 : Int32) = (11 : Int32) from rfl), show mI σ 6 12 = gW A 128 from (hC.n hc).1.2.2.2.2.2.1.2.2.1]
    · unfold f_Model_all
      rw [(hM.z (v := 0) hA).k.2.1, if_neg (nI_ne0 (by omega) (by omega)), if_neg (show ¬ (11 : Int32) = (0 : Int32) by decide), if_neg (show ¬ (11 : Int32) = (1 : Int32) by decide), if_neg (show ¬ (11 : Int32) = (2 : Int32) by decide), if_neg (show ¬ (11 : Int32) = (3 : Int32) by decide), if_neg (show ¬ (11 : Int32) = (4 : Int32) by decide), if_neg (show ¬ (11 : Int32) = (5 : Int32) by decide), if_neg (show ¬ (11 : Int32) = (6 : Int32) by decide), if_neg (show ¬ (11 : Int32) = (7 : Int32) by decide), if_neg (show ¬ (11 : Int32) = (8 : Int32) by decide), if_neg (show ¬ (11 : Int32) = (9 : Int32) by decide), if_neg (show ¬ (11 : Int32) = (10 : Int32) by decide), if_pos (show (11 : Int32) = (11 : Int32) from rfl), (hM.z (v := 0) hA).w, show (128 : Int32).toNatClampNeg = 128 from rfl]
  by_cases h12 : x = 12
  · subst h12
    have hm : msN A 6 = nT + 1 := by unfold msN; rw [if_neg (show ¬ 6 ≤ 3 by omega)]; exact hT
    refine ⟨nI (fgS (msS A 6) nT), fun σ hC => ?_, fun σ hM => ?_⟩
    · obtain ⟨σ1, g1, g2⟩ := fg_class (x := 6) (X := 12) hA hc hC (Or.inr ⟨rfl, rfl⟩) hm (by omega)
      refine ⟨σ1, ?_, g2⟩
      unfold f_Game_all
      rw [Trade_hasCity hC.k t8, if_neg (by omega), Option.bind_some, if_neg (show ¬ (1 : Int32) = 0 by decide), if_neg (show ¬ (12 : Int32) = (0 : Int32) by decide), if_neg (show ¬ (12 : Int32) = (1 : Int32) by decide), if_neg (show ¬ (12 : Int32) = (2 : Int32) by decide), if_neg (show ¬ (12 : Int32) = (3 : Int32) by decide), if_neg (show ¬ (12 : Int32) = (4 : Int32) by decide), if_neg (show ¬ (12 : Int32) = (5 : Int32) by decide), if_neg (show ¬ (12 : Int32) = (6 : Int32) by decide), if_neg (show ¬ (12 : Int32) = (7 : Int32) by decide), if_neg (show ¬ (12 : Int32) = (8 : Int32) by decide), if_neg (show ¬ (12 : Int32) = (9 : Int32) by decide), if_neg (show ¬ (12 : Int32) = (10 : Int32) by decide), if_neg (show ¬ (12 : Int32) = (11 : Int32) by decide), if_pos (show (12 : Int32) = (12 : Int32) from rfl), if_pos hC.k.1, hC.k.2.2.1, hT, g1]
      rfl
    · obtain ⟨σ1, g1, g2⟩ := fg_model (x := 6) hA hc (hM.z (v := 0) hA) (by omega) hm (by omega)
      refine ⟨σ1, ?_, (SM_0 (v := 0) hM).trans g2⟩
      unfold f_Model_all
      rw [(hM.z (v := 0) hA).k.2.1, if_neg (nI_ne0 (by omega) (by omega)), if_neg (show ¬ (12 : Int32) = (0 : Int32) by decide), if_neg (show ¬ (12 : Int32) = (1 : Int32) by decide), if_neg (show ¬ (12 : Int32) = (2 : Int32) by decide), if_neg (show ¬ (12 : Int32) = (3 : Int32) by decide), if_neg (show ¬ (12 : Int32) = (4 : Int32) by decide), if_neg (show ¬ (12 : Int32) = (5 : Int32) by decide), if_neg (show ¬ (12 : Int32) = (6 : Int32) by decide), if_neg (show ¬ (12 : Int32) = (7 : Int32) by decide), if_neg (show ¬ (12 : Int32) = (8 : Int32) by decide), if_neg (show ¬ (12 : Int32) = (9 : Int32) by decide), if_neg (show ¬ (12 : Int32) = (10 : Int32) by decide), if_neg (show ¬ (12 : Int32) = (11 : Int32) by decide), if_pos (show (12 : Int32) = (12 : Int32) from rfl), show f_Model_greatest (sI σ 565 0 0) (6 : Int32) = _ from g1]
      rfl
  refine ⟨-1000000, fun σ hC => ⟨σ, ?_, SC.refl _ _ _⟩, fun σ hM => ⟨_, ?_, SM_0 (v := 0) hM⟩⟩
  · unfold f_Game_all
    rw [Trade_hasCity hC.k t8, if_neg (by omega), Option.bind_some, if_neg (show ¬ (1 : Int32) = 0 by decide), if_neg h0, if_neg h1, if_neg h2, if_neg h3, if_neg h4, if_neg h5, if_neg h6, if_neg h7, if_neg h8, if_neg h9, if_neg h10, if_neg h11, if_neg h12]
  · unfold f_Model_all
    rw [(hM.z (v := 0) hA).k.2.1, if_neg (nI_ne0 (by omega) (by omega)), if_neg h0, if_neg h1, if_neg h2, if_neg h3, if_neg h4, if_neg h5, if_neg h6, if_neg h7, if_neg h8, if_neg h9, if_neg h10, if_neg h11, if_neg h12]
