/-! more questions of the present state -/
theorem sim_count (x : Int32) : Sim (fun σ => pu (f_Game_count σ x) σ) (fun σ => f_Model_count σ x) := Sim.ru fun A hA => by
  refine ⟨if x = 0 then nI (cT (gK A)) else if x = 1 then nI (cB (gK A)) else if x = 2 then nI (gL A).1 else if x = 3 then nI (gD A).1 else if x = 4 then nI (gT A).1 else if x = 5 then (gL A).2.2 else if x = 6 then gW A 130 else if x = 7 then gW A 127 else if x = 8 then gW A 129 else if x = 9 then gW A 126 else if x = 10 then (gM A).2 else if x = 11 then nI (gS A).1 else if x = 12 then gW A 131 else if x = 13 then nI (gH A).1 else -1000000, fun σ h => ?_, fun σ hM => ⟨sI σ 565 0 0, ?_, SM_0 (v := 0) hM⟩⟩
  · unfold f_Game_count
    by_cases c0 : x = 0
    · rw [if_pos c0, if_pos c0, if_pos h.k.1, h.k.2.2.1]
    rw [if_neg c0, if_neg c0]
    by_cases c1 : x = 1
    · rw [if_pos c1, if_pos c1, if_pos h.k.1, h.k.2.2.2.1]
    rw [if_neg c1, if_neg c1]
    by_cases c2 : x = 2
    · rw [if_pos c2, if_pos c2, h.2.1.1]
    rw [if_neg c2, if_neg c2]
    by_cases c3 : x = 3
    · rw [if_pos c3, if_pos c3, h.2.2.1.1]
    rw [if_neg c3, if_neg c3]
    by_cases c4 : x = 4
    · rw [if_pos c4, if_pos c4, h.1.1]
    rw [if_neg c4, if_neg c4]
    by_cases c5 : x = 5
    · rw [if_pos c5, if_pos c5, h.2.1.2.1]
    rw [if_neg c5, if_neg c5]
    by_cases c6 : x = 6
    · rw [if_pos c6, if_pos c6, h.2.2.2.2.2.2.1.1.2.2.2.2]
    rw [if_neg c6, if_neg c6]
    by_cases c7 : x = 7
    · rw [if_pos c7, if_pos c7, h.2.2.2.2.2.2.1.1.2.2.1]
    rw [if_neg c7, if_neg c7]
    by_cases c8 : x = 8
    · rw [if_pos c8, if_pos c8, h.2.2.2.2.2.2.1.1.2.2.2.1]
    rw [if_neg c8, if_neg c8]
    by_cases c9 : x = 9
    · rw [if_pos c9, if_pos c9, h.2.2.2.2.2.2.1.1.1]
    rw [if_neg c9, if_neg c9]
    by_cases c10 : x = 10
    · rw [if_pos c10, if_pos c10, h.2.2.2.1.2]
    rw [if_neg c10, if_neg c10]
    by_cases c11 : x = 11
    · rw [if_pos c11, if_pos c11, h.2.2.2.2.2.2.2.2.2.1]
    rw [if_neg c11, if_neg c11]
    by_cases c12 : x = 12
    · rw [if_pos c12, if_pos c12, h.2.2.2.2.2.2.1.1.2.1]
    rw [if_neg c12, if_neg c12]
    by_cases c13 : x = 13
    · rw [if_pos c13, if_pos c13, h.2.2.2.2.2.2.2.2.1.1]
    rw [if_neg c13, if_neg c13]
  · have hz := hM.z (v := 0) hA
    unfold f_Model_count
    by_cases c0 : x = 0
    · rw [if_pos c0, if_pos c0, hz.k.1]
    rw [if_neg c0, if_neg c0]
    by_cases c1 : x = 1
    · rw [if_pos c1, if_pos c1, hz.k.2.1]
    rw [if_neg c1, if_neg c1]
    by_cases c2 : x = 2
    · rw [if_pos c2, if_pos c2, hz.2.1.1]
    rw [if_neg c2, if_neg c2]
    by_cases c3 : x = 3
    · rw [if_pos c3, if_pos c3, hz.2.2.1.1]
    rw [if_neg c3, if_neg c3]
    by_cases c4 : x = 4
    · rw [if_pos c4, if_pos c4, hz.1.1]
    rw [if_neg c4, if_neg c4]
    by_cases c5 : x = 5
    · rw [if_pos c5, if_pos c5, hz.2.1.2.1]
    rw [if_neg c5, if_neg c5]
    by_cases c6 : x = 6
    · rw [if_pos c6, if_pos c6, hz.w, show (130 : Int32).toNatClampNeg = 130 by decide]
    rw [if_neg c6, if_neg c6]
    by_cases c7 : x = 7
    · rw [if_pos c7, if_pos c7, hz.w, show (127 : Int32).toNatClampNeg = 127 by decide]
    rw [if_neg c7, if_neg c7]
    by_cases c8 : x = 8
    · rw [if_pos c8, if_pos c8, hz.w, show (129 : Int32).toNatClampNeg = 129 by decide]
    rw [if_neg c8, if_neg c8]
    by_cases c9 : x = 9
    · rw [if_pos c9, if_pos c9, hz.w, show (126 : Int32).toNatClampNeg = 126 by decide]
    rw [if_neg c9, if_neg c9]
    by_cases c10 : x = 10
    · rw [if_pos c10, if_pos c10, hz.2.2.2.1.2]
    rw [if_neg c10, if_neg c10]
    by_cases c11 : x = 11
    · rw [if_pos c11, if_pos c11, hz.2.2.2.2.2.2.2.2.2.1]
    rw [if_neg c11, if_neg c11]
    by_cases c12 : x = 12
    · rw [if_pos c12, if_pos c12, hz.w, show (131 : Int32).toNatClampNeg = 131 by decide]
    rw [if_neg c12, if_neg c12]
    by_cases c13 : x = 13
    · rw [if_pos c13, if_pos c13, hz.2.2.2.2.2.2.2.2.1.1]
    rw [if_neg c13, if_neg c13]
theorem Day_part {σ : Mem} {o i k : Nat} (hi : i < 16) (hk : k < 3) : f_Day_part σ o (nI i) (nI k) = some (mI σ (o + 1) (3 * i + k)) := by
  unfold f_Day_part
  rw [nI_mul3, nI_add, if_pos (inb_nI (by omega) (by decide)), nI_clamp (by omega)]
theorem ra4 (i : Nat) : ra 4 i = 555 + 2 * i := by unfold ra; rw [if_neg (by omega), if_pos rfl]
theorem Model_isPlan {σ : Mem} {x : Int32} {n : Nat} (h : mI σ 565 30 = nI n) : f_Model_isPlan σ x = some (isS n x) := by
  unfold f_Model_isPlan isS
  rw [h]
  by_cases q : x < 0
  · rw [if_pos q, if_pos q]
  · rw [if_neg q, if_neg q]
    by_cases q2 : nI n ≤ x
    · rw [if_pos q2, if_pos q2]
    · rw [if_neg q2, if_neg q2]
theorem isS_0 {n : Nat} {x : Int32} (h : isS n x = 0) : x < 0 ∨ (¬ x < 0 ∧ nI n ≤ x) := by
  unfold isS at h
  by_cases q : x < 0
  · exact Or.inl q
  · rw [if_neg q] at h
    by_cases q2 : nI n ≤ x
    · exact Or.inr ⟨q, q2⟩
    · rw [if_neg q2] at h; exact absurd h (by decide)
theorem sim_step (x y z : Int32) : Sim (fun σ => pu (f_Game_step σ x y z) σ) (fun σ => f_Model_step σ x y z) := Sim.ru fun A hA => by
  have d4 := hA.2.2.1.1
  have e2 : (2 : Int64) = lN 2 := rfl
  rcases isS_ty (gD A).1 x (by omega) with q | ⟨q, d, d1, rfl⟩
  · refine ⟨-1000000, fun σ h => ?_, fun σ hM => ⟨sI σ 565 0 0, ?_, SM_0 (v := 0) hM⟩⟩
    · unfold f_Game_step
      rw [h.2.2.1.1]
      rcases isS_0 q with p | ⟨p, p2⟩
      · rw [if_pos p]
      · rw [if_neg p, if_pos p2]
    · unfold f_Model_step
      rw [Model_isPlan (hM.z (v := 0) hA).2.2.1.1, q]; rfl
  · obtain ⟨dl1, dl2, dl3⟩ := hA.2.2.1.2 d d1
    have hi5 := inb_nI (show d < 5 by omega) (by decide)
    have hcl := nI_clamp (show d < 2 ^ 31 by omega)
    have mq : ∀ σ, MRel σ A → f_Model_step σ (nI d) y z = (f_Model_isIn (sI σ 565 0 0) y.toInt64 0 (lN ((gD A).2.1 d - 1))).bind fun q4 => if q4 = 0 then some (-1000000, sI σ 565 0 0) else (f_Model_isIn (sI σ 565 0 0) z.toInt64 0 2).bind fun q6 => if q6 = 0 then some (-1000000, sI σ 565 0 0) else if inb (3 * (16 * nI d + y) + z) 240 then some (mI (sI σ 565 0 0) 576 (3 * (16 * nI d + y) + z).toNatClampNeg, sI σ 565 0 0) else none := fun σ hM => by
      have hz := hM.z (v := 0) hA
      unfold f_Model_step
      rw [Model_isPlan hz.2.2.1.1, q, Option.bind_some, if_neg (by decide), if_pos hi5, hcl, (hz.2.2.1.2 d d1).1, show nI ((gD A).2.1 d) - (1 : Int32) = nI ((gD A).2.1 d - 1) from pk_sub (b := 1) dl1, nI_l (by omega)]
    have cq : ∀ σ, CRel σ A → f_Game_step σ (nI d) y z = if y < 0 then some (-1000000) else if nI ((gD A).2.1 d) ≤ y then some (-1000000) else if z < 0 then some (-1000000) else if z ≤ 2 then (f_Day_part σ (555 + 2 * d) y z).bind fun q8 => some q8 else some (-1000000) := fun σ h => by
      unfold f_Game_step
      rw [h.2.2.1.1, if_neg (nI_pos (by omega)), if_neg (nI_ge d1 (by omega)), if_pos hi5, hcl, ra4, (h.2.2.1.2 d d1).1]
    rcases rng0 ((gD A).2.1 d - 1) y (by omega) with ⟨r1, r2⟩ | ⟨r1, r2, r3⟩ | ⟨r1, j, j1, rfl⟩
    · refine ⟨-1000000, fun σ h => ?_, fun σ hM => ⟨sI σ 565 0 0, ?_, SM_0 (v := 0) hM⟩⟩
      · rw [cq σ h, if_pos r1]
      · rw [mq σ hM, l0, Model_isInR (by omega) (by omega), r2]; rfl
    · refine ⟨-1000000, fun σ h => ?_, fun σ hM => ⟨sI σ 565 0 0, ?_, SM_0 (v := 0) hM⟩⟩
      · rw [cq σ h, if_neg r1, if_pos (Int32.not_lt.mp (gt_lit (by omega) (by omega) r1 r2))]
      · rw [mq σ hM, l0, Model_isInR (by omega) (by omega), r3]; rfl
    · rcases rng0 2 z (by omega) with ⟨s1, s2⟩ | ⟨s1, s2, s3⟩ | ⟨s1, k, k1, rfl⟩
      · refine ⟨-1000000, fun σ h => ?_, fun σ hM => ⟨sI σ 565 0 0, ?_, SM_0 (v := 0) hM⟩⟩
        · rw [cq σ h, if_neg (nI_pos (by omega)), if_neg (nI_ge (by omega) (by omega)), if_pos s1]
        · rw [mq σ hM, l0, Model_isInR (by omega) (by omega), r1, Option.bind_some, if_neg (by decide), e2, Model_isInR (by omega) (by omega), s2]; rfl
      · refine ⟨-1000000, fun σ h => ?_, fun σ hM => ⟨sI σ 565 0 0, ?_, SM_0 (v := 0) hM⟩⟩
        · rw [cq σ h, if_neg (nI_pos (by omega)), if_neg (nI_ge (by omega) (by omega)), if_neg s1, if_neg (show ¬ z ≤ (2 : Int32) from Int32.not_le.mpr s2)]
        · rw [mq σ hM, l0, Model_isInR (by omega) (by omega), r1, Option.bind_some, if_neg (by decide), e2, Model_isInR (by omega) (by omega), s3]; rfl
      · refine ⟨(gD A).2.2 d (3 * j + k), fun σ h => ?_, fun σ hM => ⟨sI σ 565 0 0, ?_, SM_0 (v := 0) hM⟩⟩
        · rw [cq σ h, if_neg (nI_pos (by omega)), if_neg (nI_ge (by omega) (by omega)), if_neg (nI_pos (by omega)), if_pos (show nI k ≤ (2 : Int32) from nI_le (b := 2) (by omega) (by omega)), Day_part (by omega) (by omega), Option.bind_some]
          rw [show 555 + 2 * d + 1 = 556 + 2 * d by omega, (h.2.2.1.2 d d1).2 (3 * j + k) (by omega)]
        · rw [mq σ hM, l0, Model_isInR (by omega) (by omega), r1, Option.bind_some, if_neg (by decide), e2, Model_isInR (by omega) (by omega), s1, Option.bind_some, if_neg (by decide), row_ne (by omega)]
          have hx := (hM.2.2.1.2 d d1).2 (3 * j + k) (by omega)
          rw [show 48 * d + (3 * j + k) = 3 * (16 * d + j) + k by omega] at hx
          simp (disch := omega) only [Nat.add_sub_cancel, z_in, z_cl, c_le_t, c_le_f, c_lt_t, c_lt_f, c_eq_t, c_eq_f, c_le0_t, c_le0_f, c_0le, c_lt0, c_0lt, c_eq0_f, c_eq1_f, c_eq0_t, c_eq1_t, c_1le, c_lt1, c_m1, z_sub1, z_sub, nI_1, nI_add, pk_mul, Option.bind_some, if_true, if_false, ite_true, ite_false, l_2, l_3, l_4, l_5, l_6, l_7, l_8, l_9, l_10, l_11, l_12, l_13, l_15, l_16, l_20, l_23, l_24, l_30, l_32, l_40, l_41, l_48, l_50, l_57, l_59, l_60, l_61, l_99, l_100, l_104, l_109, l_112, l_115, l_116, l_119, l_126, l_127, l_128, l_129, l_130, l_131, l_132, l_177, l_192, l_240, l_312, l_999, l_1000, l_9999, hx]
theorem sim_shares (x y : Int32) : Sim (fun σ => pu (f_Game_shares σ x y) σ) (fun σ => f_Model_shares σ x y) := Sim.ru fun A hA => by
  have b6 := hA.B6
  have e9 : (999 : Int64) = lN 999 := rfl
  rcases isS_ty (cB (gK A)) x (by omega) with q | ⟨q, b, b1, rfl⟩
  · refine ⟨-1, fun σ hC => ?_, fun σ hM => ⟨sI σ 565 0 0, ?_, SM_0 (v := 0) hM⟩⟩
    · unfold f_Game_shares; rw [Trade_isBuyer hC.k, q]; rfl
    · unfold f_Model_shares; rw [Model_isBuyer (hM.z (v := 0) hA).k, q]; rfl
  · have hc := hA.city (Or.inr (by omega))
    obtain ⟨n, n1, n2, -⟩ := hc.2.2.2.1.1.1
    rcases rng0 999 y (by omega) with ⟨r1, r2⟩ | ⟨r1, r2, r3⟩ | ⟨r1, j, j1, rfl⟩
    · refine ⟨-1, fun σ hC => ?_, fun σ hM => ⟨sI σ 565 0 0, ?_, SM_0 (v := 0) hM⟩⟩
      · unfold f_Game_shares; rw [Trade_isBuyer hC.k, q, Option.bind_some, if_neg (by decide), if_pos r1]
      · unfold f_Model_shares; rw [Model_isBuyer (hM.z (v := 0) hA).k, q, Option.bind_some, if_neg (by decide), l0, e9, Model_isInR (by omega) (by omega), r2]; rfl
    · refine ⟨-1, fun σ hC => ?_, fun σ hM => ⟨sI σ 565 0 0, ?_, SM_0 (v := 0) hM⟩⟩
      · unfold f_Game_shares; rw [Trade_isBuyer hC.k, q, Option.bind_some, if_neg (by decide), if_neg r1, if_neg (show ¬ y ≤ (999 : Int32) from Int32.not_le.mpr r2)]
      · unfold f_Model_shares; rw [Model_isBuyer (hM.z (v := 0) hA).k, q, Option.bind_some, if_neg (by decide), l0, e9, Model_isInR (by omega) (by omega), r3]; rfl
    · refine ⟨if dueA (fun k => gW A (30 + k)) n = 0 then 0 else nI j * dueS (fun k => gW A (30 + k)) (nI b) n / dueA (fun k => gW A (30 + k)) n, fun σ hC => ?_, fun σ hM => ⟨sI σ 565 0 0, ?_, SM_0 (v := 0) hM⟩⟩
      · have hr := (hC.n hc).1
        unfold f_Game_shares
        rw [Trade_isBuyer hC.k, q, Option.bind_some, if_neg (by decide), if_neg (nI_pos (by omega)), if_pos (show nI j ≤ (999 : Int32) from nI_le (b := 999) (by omega) (by omega)), dueA_RS hr n1 n2, Option.bind_some, dueS_RS hr n1 n2, Option.bind_some]
        by_cases z : dueA (fun k => gW A (30 + k)) n = 0
        · rw [if_pos z, if_pos z]
        · rw [if_neg z, if_neg z, if_neg z]
      · have hz := hM.z (v := 0) hA
        have ha := Model_allDue (σ := sI σ 565 0 0) (a := 578) ln578 (by rw [hz.w]; exact n2) n1
        have hd := Model_dueOf (σ := sI σ 565 0 0) (a := 578) (b := nI b) ln578 (by rw [hz.w]; exact n2) n1
        rw [hz.w] at ha hd
        unfold f_Model_shares
        rw [Model_isBuyer hz.k, q, Option.bind_some, if_neg (by decide), l0, e9, Model_isInR (by omega) (by omega), r1, Option.bind_some, if_neg (by decide), ha, Option.bind_some, hd, Option.bind_some]
        by_cases z : dueA (fun k => gW A (30 + k)) n = 0
        · rw [if_pos z, if_pos z]
        · rw [if_neg z, if_neg z, if_neg z]
