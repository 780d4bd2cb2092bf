/-! treasury, purse, whose -/
theorem sim_treasury (x : Int32) : Sim (fun σ => f_Game_treasury σ x) (fun σ => f_Model_treasury σ x) := Sim.ro fun A hA => by
  have t8 := hA.T8
  have e60 : (60 : Int64) = lN 60 := rfl
  rcases hA.cs with p | hc
  · refine ⟨-1, fun σ hC => ⟨σ, ?_, SC.refl _ _ _⟩, fun σ hM => ⟨_, ?_, SM_0 (v := 0) hM⟩⟩
    · unfold f_Game_treasury; rw [Trade_hasCity hC.k t8, if_pos p.1]; rfl
    · unfold f_Model_treasury; rw [(hM.z (v := 0) hA).k.2.1, p.2.1, if_pos (show nI 0 = (0 : Int32) from rfl)]
  · have hT1 := hc.1
    have hB1 := hc.2.1
    have b6 := hA.B6
    have cq : ∀ σ, CRel σ A → f_Game_treasury σ x = if x < 0 then some (-1, σ) else if x ≤ 60 then (f_Outlook_behind σ 6 x).bind fun q5 => some (mI q5 435 13, q5) else some (-1, σ) := fun σ hC => by
      unfold f_Game_treasury
      rw [Trade_hasCity hC.k t8, if_neg (by omega), Option.bind_some, if_neg (by decide)]
    have mq : ∀ σ, MRel σ A → f_Model_treasury σ x = if isR 0 60 x = 0 then some (-1, sI σ 565 0 0) else (f_Model_laysTrial (sI σ 565 0 0) x).bind fun q4 => some (mI q4 579 129, q4) := fun σ hM => by
      unfold f_Model_treasury
      rw [(hM.z (v := 0) hA).k.2.1, if_neg (nI_ne0 (by omega) (by omega)), l0, e60, Model_isInR (by omega) (by omega), Option.bind_some, show (129 : Int32).toNatClampNeg = 129 by decide]
    rcases rng0 60 x (by omega) with ⟨r1, r2⟩ | ⟨r1, r2, r3⟩ | ⟨r1, j, j1, rfl⟩
    · exact ⟨-1, fun σ hC => ⟨σ, by show f_Game_treasury σ x = _; rw [cq σ hC, if_pos r1], SC.refl _ _ _⟩, fun σ hM => ⟨_, by show f_Model_treasury σ x = _; rw [mq σ hM, if_pos r2], SM_0 (v := 0) hM⟩⟩
    · exact ⟨-1, fun σ hC => ⟨σ, by show f_Game_treasury σ x = _; rw [cq σ hC, if_neg r1, if_neg (show ¬ x ≤ (60 : Int32) from Int32.not_le.mpr r2)], SC.refl _ _ _⟩, fun σ hM => ⟨_, by show f_Model_treasury σ x = _; rw [mq σ hM, if_pos r3], SM_0 (v := 0) hM⟩⟩
    · refine ⟨itH (gK A) (gW A) j 129, fun σ hC => ?_, fun σ hM => ?_⟩
      · obtain ⟨σ', g1, g2, g3⟩ := Outlook_behind hA hC hc j1
        refine ⟨σ', ?_, g3⟩
        show f_Game_treasury σ (nI j) = _
        rw [cq σ hC, if_neg (nI_pos (by omega)), if_pos (show nI j ≤ (60 : Int32) from nI_le (b := 60) j1 (by omega)), g1, Option.bind_some, g2.2.2.2.2.2.1.2.2.2.1]
      · have hz := hM.z (v := 0) hA
        obtain ⟨σ', g1, g2⟩ := Model_laysTrial hA hz hc j1
        refine ⟨σ', ?_, (SM_0 (v := 0) hM).trans g2.sm⟩
        show f_Model_treasury σ (nI j) = _
        rw [mq σ hM, if_neg (by rw [r1]; decide), g1, Option.bind_some, g2.1 129 (by omega)]
theorem sim_purse (x y : Int32) : Sim (fun σ => f_Game_purse σ x y) (fun σ => f_Model_purse σ x y) := Sim.ro fun A hA => by
  have b6 := hA.B6
  have e60 : (60 : Int64) = lN 60 := rfl
  rcases isS_ty (cB (gK A)) x (by omega) with q | ⟨q, b, b1, rfl⟩
  · refine ⟨-1, fun σ hC => ⟨σ, ?_, SC.refl _ _ _⟩, fun σ hM => ⟨_, ?_, SM_0 (v := 0) hM⟩⟩
    · unfold f_Game_purse; rw [Trade_isBuyer hC.k, q]; rfl
    · unfold f_Model_purse; rw [Model_isBuyer (hM.z (v := 0) hA).k, q]; rfl
  · have hc := hA.city (Or.inr (by omega))
    have cq : ∀ σ, CRel σ A → f_Game_purse σ (nI b) y = if y < 0 then some (-1, σ) else if y ≤ 60 then (f_Outlook_behind σ 6 y).bind fun q5 => some (mI q5 441 b, q5) else some (-1, σ) := fun σ hC => by
      unfold f_Game_purse
      rw [Trade_isBuyer hC.k, q, Option.bind_some, if_neg (by decide), nI_clamp (by omega)]
      simp only [inb_nI (show b < 6 by omega) (show 6 < 2 ^ 31 by decide), if_true]
    have hin : inb ((24 : Int32) + nI b) 131 = true := by simp (disch := omega) only [Nat.add_sub_cancel, z_in, z_cl, c_le_t, c_le_f, c_lt_t, c_lt_f, c_eq_t, c_eq_f, c_le0_t, c_le0_f, c_0le, c_lt0, c_0lt, c_eq0_f, c_eq1_f, c_eq0_t, c_eq1_t, c_1le, c_lt1, c_m1, z_sub1, z_sub, nI_1, nI_add, pk_mul, Option.bind_some, if_true, if_false, ite_true, ite_false, l_2, l_3, l_4, l_5, l_6, l_7, l_8, l_9, l_10, l_11, l_12, l_13, l_15, l_16, l_20, l_23, l_24, l_30, l_32, l_40, l_41, l_48, l_50, l_57, l_59, l_60, l_61, l_99, l_100, l_104, l_109, l_112, l_115, l_116, l_119, l_126, l_127, l_128, l_129, l_130, l_131, l_132, l_177, l_192, l_240, l_312, l_999, l_1000, l_9999]
    have hcl : ((24 : Int32) + nI b).toNatClampNeg = 24 + b := by simp (disch := omega) only [Nat.add_sub_cancel, z_in, z_cl, c_le_t, c_le_f, c_lt_t, c_lt_f, c_eq_t, c_eq_f, c_le0_t, c_le0_f, c_0le, c_lt0, c_0lt, c_eq0_f, c_eq1_f, c_eq0_t, c_eq1_t, c_1le, c_lt1, c_m1, z_sub1, z_sub, nI_1, nI_add, pk_mul, Option.bind_some, if_true, if_false, ite_true, ite_false, l_2, l_3, l_4, l_5, l_6, l_7, l_8, l_9, l_10, l_11, l_12, l_13, l_15, l_16, l_20, l_23, l_24, l_30, l_32, l_40, l_41, l_48, l_50, l_57, l_59, l_60, l_61, l_99, l_100, l_104, l_109, l_112, l_115, l_116, l_119, l_126, l_127, l_128, l_129, l_130, l_131, l_132, l_177, l_192, l_240, l_312, l_999, l_1000, l_9999]
    have mq : ∀ σ, MRel σ A → f_Model_purse σ (nI b) y = if isR 0 60 y = 0 then some (-1, sI σ 565 0 0) else (f_Model_laysTrial (sI σ 565 0 0) y).bind fun q4 => some (mI q4 579 (24 + b), q4) := fun σ hM => by
      unfold f_Model_purse
      rw [Model_isBuyer (hM.z (v := 0) hA).k, q, Option.bind_some, if_neg (by decide), l0, e60, Model_isInR (by omega) (by omega), Option.bind_some, hcl]
      simp only [hin, if_true]
    rcases rng0 60 y (by omega) with ⟨r1, r2⟩ | ⟨r1, r2, r3⟩ | ⟨r1, j, j1, rfl⟩
    · exact ⟨-1, fun σ hC => ⟨σ, by show f_Game_purse σ (nI b) y = _; rw [cq σ hC, if_pos r1], SC.refl _ _ _⟩, fun σ hM => ⟨_, by show f_Model_purse σ (nI b) y = _; rw [mq σ hM, if_pos r2], SM_0 (v := 0) hM⟩⟩
    · exact ⟨-1, fun σ hC => ⟨σ, by show f_Game_purse σ (nI b) y = _; rw [cq σ hC, if_neg r1, if_neg (show ¬ y ≤ (60 : Int32) from Int32.not_le.mpr r2)], SC.refl _ _ _⟩, fun σ hM => ⟨_, by show f_Model_purse σ (nI b) y = _; rw [mq σ hM, if_pos r3], SM_0 (v := 0) hM⟩⟩
    · refine ⟨itH (gK A) (gW A) j (24 + b), fun σ hC => ?_, fun σ hM => ?_⟩
      · obtain ⟨σ', g1, g2, g3⟩ := Outlook_behind hA hC hc j1
        refine ⟨σ', ?_, g3⟩
        show f_Game_purse σ (nI b) (nI j) = _
        rw [cq σ hC, if_neg (nI_pos (by omega)), if_pos (show nI j ≤ (60 : Int32) from nI_le (b := 60) j1 (by omega)), g1, Option.bind_some, (g2.2.2.2.1 b b1).1]
      · have hz := hM.z (v := 0) hA
        obtain ⟨σ', g1, g2⟩ := Model_laysTrial hA hz hc j1
        refine ⟨σ', ?_, (SM_0 (v := 0) hM).trans g2.sm⟩
        show f_Model_purse σ (nI b) (nI j) = _
        rw [mq σ hM, if_neg (by rw [r1]; decide), g1, Option.bind_some, g2.1 (24 + b) (by omega)]
theorem sim_whose (x y : Int32) : Sim (fun σ => f_Game_whose σ x y) (fun σ => f_Model_whose σ x y) := Sim.ro fun A hA => by
  have t8 := hA.T8
  have e60 : (60 : Int64) = lN 60 := rfl
  rcases isS_ty (cT (gK A)) x (by omega) with q | ⟨q, b, b1, rfl⟩
  · refine ⟨-1, fun σ hC => ⟨σ, ?_, SC.refl _ _ _⟩, fun σ hM => ⟨_, ?_, SM_0 (v := 0) hM⟩⟩
    · unfold f_Game_whose; rw [Trade_isThing hC.k, q]; rfl
    · unfold f_Model_whose; rw [Model_isThing (hM.z (v := 0) hA).k, q]; rfl
  · have hc := hA.city (Or.inl (by omega))
    have cq : ∀ σ, CRel σ A → f_Game_whose σ (nI b) y = if y < 0 then some (-1, σ) else if y ≤ 60 then (f_Outlook_behind σ 6 y).bind fun q5 => some (mI q5 436 b, q5) else some (-1, σ) := fun σ hC => by
      unfold f_Game_whose
      rw [Trade_isThing hC.k, q, Option.bind_some, if_neg (by decide), nI_clamp (by omega)]
      simp only [inb_nI (show b < 8 by omega) (show 8 < 2 ^ 31 by decide), if_true]
    have mq : ∀ σ, MRel σ A → f_Model_whose σ (nI b) y = if isR 0 60 y = 0 then some (-1, sI σ 565 0 0) else (f_Model_laysTrial (sI σ 565 0 0) y).bind fun q4 => some (mI q4 579 b, q4) := fun σ hM => by
      unfold f_Model_whose
      rw [Model_isThing (hM.z (v := 0) hA).k, q, Option.bind_some, if_neg (by decide), l0, e60, Model_isInR (by omega) (by omega), Option.bind_some, nI_clamp (by omega)]
      simp only [inb_nI (show b < 131 by omega) (show 131 < 2 ^ 31 by decide), if_true]
    rcases rng0 60 y (by omega) with ⟨r1, r2⟩ | ⟨r1, r2, r3⟩ | ⟨r1, j, j1, rfl⟩
    · exact ⟨-1, fun σ hC => ⟨σ, by show f_Game_whose σ (nI b) y = _; rw [cq σ hC, if_pos r1], SC.refl _ _ _⟩, fun σ hM => ⟨_, by show f_Model_whose σ (nI b) y = _; rw [mq σ hM, if_pos r2], SM_0 (v := 0) hM⟩⟩
    · exact ⟨-1, fun σ hC => ⟨σ, by show f_Game_whose σ (nI b) y = _; rw [cq σ hC, if_neg r1, if_neg (show ¬ y ≤ (60 : Int32) from Int32.not_le.mpr r2)], SC.refl _ _ _⟩, fun σ hM => ⟨_, by show f_Model_whose σ (nI b) y = _; rw [mq σ hM, if_pos r3], SM_0 (v := 0) hM⟩⟩
    · refine ⟨itH (gK A) (gW A) j b, fun σ hC => ?_, fun σ hM => ?_⟩
      · obtain ⟨σ', g1, g2, g3⟩ := Outlook_behind hA hC hc j1
        refine ⟨σ', ?_, g3⟩
        show f_Game_whose σ (nI b) (nI j) = _
        rw [cq σ hC, if_neg (nI_pos (by omega)), if_pos (show nI j ≤ (60 : Int32) from nI_le (b := 60) j1 (by omega)), g1, Option.bind_some, (g2.1 b (by omega)).1]
      · have hz := hM.z (v := 0) hA
        obtain ⟨σ', g1, g2⟩ := Model_laysTrial hA hz hc j1
        refine ⟨σ', ?_, (SM_0 (v := 0) hM).trans g2.sm⟩
        show f_Model_whose σ (nI b) (nI j) = _
        rw [mq σ hM, if_neg (by rw [r1]; decide), g1, Option.bind_some, g2.1 b (by omega)]
