/-! run, whole -/
theorem sim_run (x y : Int32) : Sim (fun σ => f_Game_run σ x y) (fun σ => f_Model_run σ x y) := Sim.ro fun A hA => by
  have t8 := hA.T8
  have b6 := hA.B6
  have d4 := hA.2.2.1.1
  have e1 : (1 : Int64) = lN 1 := rfl
  have no : (∀ σ, CRel σ A → f_Game_run σ x y = some (-1000000, σ)) → (∀ σ, MRel σ A → f_Model_run σ x y = some (-1000000, sI σ 565 0 0)) → ∃ r, (∀ σ, CRel σ A → ∃ σ', (fun σ => f_Game_run σ x y) σ = some (r, σ') ∧ SC (gL A).1 (gD A).1 σ σ') ∧ (∀ σ, MRel σ A → ∃ σ', (fun σ => f_Model_run σ x y) σ = some (r, σ') ∧ SM (gL A).1 (gL A).2.1 σ σ') := fun h1 h2 =>
    ⟨-1000000, fun σ hC => ⟨σ, h1 σ hC, SC.refl _ _ _⟩, fun σ hM => ⟨_, h2 σ hM, SM_0 (v := 0) hM⟩⟩
  rcases hA.cs with p | hc
  · refine no (fun σ hC => ?_) (fun σ hM => ?_)
    · unfold f_Game_run; rw [Trade_hasCity hC.k t8, if_pos p.1]; rfl
    · unfold f_Model_run
      rw [Model_isPlan (hM.z (v := 0) hA).2.2.1.1, Option.bind_some, (hM.z (v := 0) hA).k.2.1, p.2.1, if_pos (show nI 0 = (0 : Int32) from rfl)]
      split <;> rfl
  · have hT1 := hc.1
    have hB1 := hc.2.1
    have cq : ∀ σ, CRel σ A → f_Game_run σ x y = if x < 0 then some (-1000000, σ) else if nI (gD A).1 ≤ x then some (-1000000, σ) else if y < 0 then some (-1000000, σ) else if y ≤ 1 then (f_Outlook_startingAt σ 6).bind fun q7 => (loopF (f_Game_run_L52 x y 435) FU (q7, 0, 0)).bind fun q => f_Game_run_J111 q.1 x y 435 q.2 else some (-1000000, σ) := fun σ hC => by
      unfold f_Game_run
      rw [Trade_hasCity hC.k t8, if_neg (by omega), Option.bind_some, if_neg (by decide), hC.2.2.1.1]
    have mq : ∀ σ, MRel σ A → f_Model_run σ x y = if isS (gD A).1 x = 0 then some (-1000000, sI σ 565 0 0) else if isR 0 1 y = 0 then some (-1000000, sI σ 565 0 0) else (f_Model_copy (sI σ 565 0 0) 578 579).bind fun q6 => (loopF (f_Model_run_L50 x y) FU (q6, 0)).bind fun q => f_Model_run_J152 q.1 x y q.2 := fun σ hM => by
      unfold f_Model_run
      rw [Model_isPlan (hM.z (v := 0) hA).2.2.1.1, Option.bind_some, (hM.z (v := 0) hA).k.2.1, if_neg (nI_ne0 (by omega) (by omega)), l0, e1, Model_isInR (by omega) (by omega), Option.bind_some]
    rcases isS_ty (gD A).1 x (by omega) with q | ⟨q, d, d1, rfl⟩
    · refine no (fun σ hC => ?_) (fun σ hM => by rw [mq σ hM, if_pos q])
      rw [cq σ hC]
      rcases isS_0 q with p | ⟨p, p2⟩
      · rw [if_pos p]
      · rw [if_neg p, if_pos p2]
    · have nq : ¬ isS (gD A).1 (nI d) = 0 := by rw [q]; decide
      have n0 : ¬ nI d < (0 : Int32) := nI_pos (by omega)
      have nd : ¬ nI (gD A).1 ≤ nI d := nI_ge d1 (by omega)
      rcases rng0 1 y (by omega) with ⟨s1, s2⟩ | ⟨s1, s2, s3⟩ | ⟨s1, k, k1, rfl⟩
      · exact no (fun σ hC => by rw [cq σ hC, if_neg n0, if_neg nd, if_pos s1]) (fun σ hM => by rw [mq σ hM, if_neg nq, if_pos s2])
      · exact no (fun σ hC => by rw [cq σ hC, if_neg n0, if_neg nd, if_neg s1, if_neg (show ¬ y ≤ (1 : Int32) from Int32.not_le.mpr s2)]) (fun σ hM => by rw [mq σ hM, if_neg nq, if_pos s3])
      · obtain ⟨dl1, dl2, -⟩ := hA.2.2.1.2 d d1
        -- what is due behind it
        refine ⟨if k = 1 then dueA (fun i => wiS (gK A) ((gD A).2.2 d) (gW A) (dnS (gK A) ((gD A).2.2 d) (gW A) ((gD A).2.1 d)) (30 + i)) (mny (wiS (gK A) ((gD A).2.2 d) (gW A) (dnS (gK A) ((gD A).2.2 d) (gW A) ((gD A).2.1 d)))) else if dnS (gK A) ((gD A).2.2 d) (gW A) ((gD A).2.1 d) = (gD A).2.1 d then -1 else nI (dnS (gK A) ((gD A).2.2 d) (gW A) ((gD A).2.1 d)), fun σ hC => ?_, fun σ hM => ?_⟩
        · obtain ⟨hr, hg⟩ := hC.n hc
          obtain ⟨σ1, g1, g2, g3, g4, g5, g6, g7⟩ := State_copyFrom (o := 435) (p := 6) (by omega) t8 b6 hr hc.2.2.2.1.1
          have cx := copy_CX g4 g5 g6
          obtain ⟨σ2, k1', k2, k3, k4, k5⟩ := Game_run_loop (x2 := nI k) hA hC hc d1 g2 cx
          have wf := wiS_wf (r := (gD A).2.2 d) hc.2.2.1 hc.2.2.2.1.1 _ k5
          obtain ⟨n, n1, n2, -⟩ := wf.1
          refine ⟨σ2, ?_, SC_cx hA hC (by omega) k3⟩
          show f_Game_run σ (nI d) (nI k) = _
          rw [cq σ hC, if_neg n0, if_neg nd, if_neg (nI_pos (by omega)), if_pos (show nI k ≤ (1 : Int32) from nI_le (b := 1) k1 (by omega))]
          unfold f_Outlook_startingAt f_Game_run_J111
          rw [g1, Option.bind_some, Option.bind_some, k1', Option.bind_some]
          dsimp only
          by_cases kk : k = 1
          · subst kk
            rw [if_pos (show nI 1 = (1 : Int32) from rfl), if_pos rfl, dueA_RS k2 n1 n2, mny_eq n1 n2]; rfl
          · have e5 : mI σ2 (555 + 2 * d) = mI σ (555 + 2 * d) := k3.1 _ (by omega) (by omega)
            rw [if_neg (show ¬ nI k = (1 : Int32) from nI_ne (b := 1) (by omega) (by omega) kk), if_neg kk, if_pos (inb_nI (by omega) (by decide)), nI_clamp (by omega), ra4, e5, (hC.2.2.1.2 d d1).1]
            by_cases e : dnS (gK A) ((gD A).2.2 d) (gW A) ((gD A).2.1 d) = (gD A).2.1 d
            · rw [if_pos e, if_pos (congrArg nI e)]
            · rw [if_neg e, if_neg (nI_ne (by omega) (by omega) e)]
        · have hz := hM.z (v := 0) hA
          obtain ⟨σ1, g1, g2⟩ := TR_copy hA hz
          obtain ⟨σ2, k1', k2⟩ := Model_run_loop (x2 := nI k) hA hz hc d1 g2
          refine ⟨σ2, ?_, (SM_0 (v := 0) hM).trans k2.sm⟩
          show f_Model_run σ (nI d) (nI k) = _
          rw [mq σ hM, if_neg nq, if_neg (by rw [s1]; decide), g1, Option.bind_some, k1', Option.bind_some]
          unfold f_Model_run_J152
          dsimp only
          have hle : dnS (gK A) ((gD A).2.2 d) (gW A) ((gD A).2.1 d) ≤ (gD A).2.1 d ∧ ∀ k, k < dnS (gK A) ((gD A).2.2 d) (gW A) ((gD A).2.1 d) → ciS (gK A) ((gD A).2.2 d) (gW A) k = true := by
            unfold dnS
            rcases firstR_cases (fun i => !ciS (gK A) ((gD A).2.2 d) (gW A) i) (fun i => i) ((gD A).2.1 d) ((gD A).2.1 d) 0 with ⟨j, j1, j2, -, j4, j5⟩ | ⟨j1, j2⟩
            · rw [j5]
              refine ⟨by omega, fun k hk => ?_⟩
              have := j4 k (by omega) hk
              cases h : ciS (gK A) ((gD A).2.2 d) (gW A) k with
              | true => rfl
              | false => rw [h] at this; cases this
            · rw [j2]
              refine ⟨Nat.le_refl _, fun k hk => ?_⟩
              have := j1 k (by omega) (by omega)
              cases h : ciS (gK A) ((gD A).2.2 d) (gW A) k with
              | true => rfl
              | false => rw [h] at this; cases this
          have wf := wiS_wf (r := (gD A).2.2 d) hc.2.2.1 hc.2.2.2.1.1 _ hle.2
          obtain ⟨n, n1, n2, -⟩ := wf.1
          by_cases kk : k = 1
          · subst kk
            rw [if_pos (show nI 1 = (1 : Int32) from rfl), if_pos rfl, Model_allDue ln579 ((k2.1 126 (by omega)).trans n2) n1, mny_eq n1 n2, dueA_congr n fun i hi => k2.1 (30 + i) (by omega)]; rfl
          · have e7 : mI σ2 577 = mI (sI σ 565 0 0) 577 := k2.2.1.1 _ (by omega) (by omega) (by omega) (by omega) (by omega)
            rw [if_neg (show ¬ nI k = (1 : Int32) from nI_ne (b := 1) (by omega) (by omega) kk), if_neg kk, if_pos (inb_nI (by omega) (by decide)), nI_clamp (by omega), e7, (hz.2.2.1.2 d d1).1]
            by_cases e : dnS (gK A) ((gD A).2.2 d) (gW A) ((gD A).2.1 d) = (gD A).2.1 d
            · rw [if_pos e, if_pos (congrArg nI e)]
            · rw [if_neg e, if_neg (nI_ne (by omega) (by omega) e)]
