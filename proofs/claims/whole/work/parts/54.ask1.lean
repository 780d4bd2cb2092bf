/-! questions of the present state -/
theorem l0 : (0 : Int64) = lN 0 := rfl
theorem gOk.T8 {A : Gh} (h : gOk A) : cT (gK A) ≤ 8 := (okC.T8 h.2.2.2).1
theorem gOk.B6 {A : Gh} (h : gOk A) : cB (gK A) ≤ 6 := (okC.T8 h.2.2.2).2
theorem nle_of_lt {a b : Int32} (h : a < b) : ¬ b ≤ a := Int32.not_le.mpr h
theorem nlt_of_le {a b : Int32} (h : a ≤ b) : ¬ b < a := Int32.not_lt.mpr h
theorem sim_thing (x y : Int32) : Sim (fun σ => pu (f_Game_thing σ x y) σ) (fun σ => f_Model_thing σ x y) := Sim.ru fun A hA => by
  have t8 := hA.T8
  have e5 : (5 : Int64) = lN 5 := rfl
  rcases isS_ty (cT (gK A)) x (by omega) with q | ⟨q, t, t1, rfl⟩
  · refine ⟨-1000000, fun σ hC => ?_, fun σ hM => ⟨_, ?_, SM_0 (v := 0) hM⟩⟩
    · unfold f_Game_thing; rw [Trade_isThing hC.k, q]; rfl
    · unfold f_Model_thing; rw [Model_isThing (hM.z (v := 0) hA).k, q]; rfl
  · have hc := hA.city (Or.inl (by omega))
    have hi1 := inb_nI (show t < 8 by omega) (by decide)
    have hcl := nI_clamp (show t < 2 ^ 31 by omega)
    rcases rng 0 5 y (by omega) (by omega) with ⟨r1, r2⟩ | ⟨r1, r2, r3⟩ | ⟨r1, j, j0, j1, rfl⟩
    · refine ⟨-1000000, fun σ hC => ?_, fun σ hM => ⟨_, ?_, SM_0 (v := 0) hM⟩⟩
      · unfold f_Game_thing
        have n : ∀ k, k ≤ 5 → y ≠ nI k := fun k hk e => by rw [e] at r1; exact nI_pos (by omega) r1
        rw [Trade_isThing hC.k, q, Option.bind_some, if_neg (by decide), if_neg (show y ≠ (0 : Int32) from n 0 (by omega)), if_neg (show y ≠ (1 : Int32) from n 1 (by omega)), if_neg (show y ≠ (2 : Int32) from n 2 (by omega)), if_neg (show y ≠ (3 : Int32) from n 3 (by omega)), if_neg (show y ≠ (4 : Int32) from n 4 (by omega)), if_neg (show y ≠ (5 : Int32) from n 5 (by omega))]
      · unfold f_Model_thing
        rw [Model_isThing (hM.z (v := 0) hA).k, q, Option.bind_some, if_neg (by decide), l0, e5, Model_isInR (by omega) (by omega), r2]; rfl
    · refine ⟨-1000000, fun σ hC => ?_, fun σ hM => ⟨_, ?_, SM_0 (v := 0) hM⟩⟩
      · unfold f_Game_thing
        have n : ∀ k, k ≤ 5 → y ≠ nI k := fun k hk e => by rw [e] at r2; exact nI_nlt hk (by omega) r2
        rw [Trade_isThing hC.k, q, Option.bind_some, if_neg (by decide), if_neg (show y ≠ (0 : Int32) from n 0 (by omega)), if_neg (show y ≠ (1 : Int32) from n 1 (by omega)), if_neg (show y ≠ (2 : Int32) from n 2 (by omega)), if_neg (show y ≠ (3 : Int32) from n 3 (by omega)), if_neg (show y ≠ (4 : Int32) from n 4 (by omega)), if_neg (show y ≠ (5 : Int32) from n 5 (by omega))]
      · unfold f_Model_thing
        rw [Model_isThing (hM.z (v := 0) hA).k, q, Option.bind_some, if_neg (by decide), l0, e5, Model_isInR (by omega) (by omega), r3]; rfl
    · refine ⟨if j < 3 then cW (gK A) (3 * t + j) else gW A ((j - 3) * 8 + t), fun σ hC => ?_, fun σ hM => ⟨_, ?_, SM_0 (v := 0) hM⟩⟩
      · obtain ⟨hr, -⟩ := hC.n hc
        have hk := hC.k
        unfold f_Game_thing
        rw [Trade_isThing hk, q, Option.bind_some, if_neg (by decide)]
        have hp := City_priceOf (σ := σ) (c := mR σ 428 1) (t := t) (by omega)
        have hs := City_shopOf (σ := σ) (c := mR σ 428 1) (t := t) (by omega)
        rw [hk.2.2.2.2.2.1 (3 * t) (by omega)] at hp
        rw [hk.2.2.2.2.2.1 (3 * t + 2) (by omega)] at hs
        have : j = 0 ∨ j = 1 ∨ j = 2 ∨ j = 3 ∨ j = 4 ∨ j = 5 := by omega
        rcases this with rfl | rfl | rfl | rfl | rfl | rfl
        · simp (disch := omega) only [Nat.add_sub_cancel, z_in, z_cl, c_le_t, c_le_f, c_lt_t, c_lt_f, c_eq_t, c_eq_f, c_le0_t, c_le0_f, c_0le, c_lt0, c_0lt, c_eq0_f, c_eq1_f, c_eq0_t, c_eq1_t, c_1le, c_lt1, c_m1, z_sub1, z_sub, nI_1, nI_add, pk_mul, Option.bind_some, if_true, if_false, ite_true, ite_false, l_2, l_3, l_4, l_5, l_6, l_7, l_8, l_9, l_10, l_11, l_12, l_13, l_15, l_16, l_20, l_23, l_24, l_30, l_32, l_40, l_41, l_48, l_50, l_57, l_59, l_60, l_61, l_99, l_100, l_104, l_109, l_112, l_115, l_116, l_119, l_126, l_127, l_128, l_129, l_130, l_131, l_132, l_177, l_192, l_240, l_312, l_999, l_1000, l_9999, hk.1, hp]
          rfl
        · simp (disch := omega) only [Nat.add_sub_cancel, z_in, z_cl, c_le_t, c_le_f, c_lt_t, c_lt_f, c_eq_t, c_eq_f, c_le0_t, c_le0_f, c_0le, c_lt0, c_0lt, c_eq0_f, c_eq1_f, c_eq0_t, c_eq1_t, c_1le, c_lt1, c_m1, z_sub1, z_sub, nI_1, nI_add, pk_mul, Option.bind_some, if_true, if_false, ite_true, ite_false, l_2, l_3, l_4, l_5, l_6, l_7, l_8, l_9, l_10, l_11, l_12, l_13, l_15, l_16, l_20, l_23, l_24, l_30, l_32, l_40, l_41, l_48, l_50, l_57, l_59, l_60, l_61, l_99, l_100, l_104, l_109, l_112, l_115, l_116, l_119, l_126, l_127, l_128, l_129, l_130, l_131, l_132, l_177, l_192, l_240, l_312, l_999, l_1000, l_9999, hr.2.1 t t1, hA.2.2.2.2.1 t t1]
          rfl
        · simp (disch := omega) only [Nat.add_sub_cancel, z_in, z_cl, c_le_t, c_le_f, c_lt_t, c_lt_f, c_eq_t, c_eq_f, c_le0_t, c_le0_f, c_0le, c_lt0, c_0lt, c_eq0_f, c_eq1_f, c_eq0_t, c_eq1_t, c_1le, c_lt1, c_m1, z_sub1, z_sub, nI_1, nI_add, pk_mul, Option.bind_some, if_true, if_false, ite_true, ite_false, l_2, l_3, l_4, l_5, l_6, l_7, l_8, l_9, l_10, l_11, l_12, l_13, l_15, l_16, l_20, l_23, l_24, l_30, l_32, l_40, l_41, l_48, l_50, l_57, l_59, l_60, l_61, l_99, l_100, l_104, l_109, l_112, l_115, l_116, l_119, l_126, l_127, l_128, l_129, l_130, l_131, l_132, l_177, l_192, l_240, l_312, l_999, l_1000, l_9999, hk.1, hs]
          rfl
        · simp (disch := omega) only [Nat.add_sub_cancel, z_in, z_cl, c_le_t, c_le_f, c_lt_t, c_lt_f, c_eq_t, c_eq_f, c_le0_t, c_le0_f, c_0le, c_lt0, c_0lt, c_eq0_f, c_eq1_f, c_eq0_t, c_eq1_t, c_1le, c_lt1, c_m1, z_sub1, z_sub, nI_1, nI_add, pk_mul, Option.bind_some, if_true, if_false, ite_true, ite_false, l_2, l_3, l_4, l_5, l_6, l_7, l_8, l_9, l_10, l_11, l_12, l_13, l_15, l_16, l_20, l_23, l_24, l_30, l_32, l_40, l_41, l_48, l_50, l_57, l_59, l_60, l_61, l_99, l_100, l_104, l_109, l_112, l_115, l_116, l_119, l_126, l_127, l_128, l_129, l_130, l_131, l_132, l_177, l_192, l_240, l_312, l_999, l_1000, l_9999, (hr.1 t (by omega)).1]
          rw [if_neg (by omega), show (3 - 3) * 8 + t = t by omega]
        · simp (disch := omega) only [Nat.add_sub_cancel, z_in, z_cl, c_le_t, c_le_f, c_lt_t, c_lt_f, c_eq_t, c_eq_f, c_le0_t, c_le0_f, c_0le, c_lt0, c_0lt, c_eq0_f, c_eq1_f, c_eq0_t, c_eq1_t, c_1le, c_lt1, c_m1, z_sub1, z_sub, nI_1, nI_add, pk_mul, Option.bind_some, if_true, if_false, ite_true, ite_false, l_2, l_3, l_4, l_5, l_6, l_7, l_8, l_9, l_10, l_11, l_12, l_13, l_15, l_16, l_20, l_23, l_24, l_30, l_32, l_40, l_41, l_48, l_50, l_57, l_59, l_60, l_61, l_99, l_100, l_104, l_109, l_112, l_115, l_116, l_119, l_126, l_127, l_128, l_129, l_130, l_131, l_132, l_177, l_192, l_240, l_312, l_999, l_1000, l_9999, (hr.1 t (by omega)).2.1]
          rfl
        · simp (disch := omega) only [Nat.add_sub_cancel, z_in, z_cl, c_le_t, c_le_f, c_lt_t, c_lt_f, c_eq_t, c_eq_f, c_le0_t, c_le0_f, c_0le, c_lt0, c_0lt, c_eq0_f, c_eq1_f, c_eq0_t, c_eq1_t, c_1le, c_lt1, c_m1, z_sub1, z_sub, nI_1, nI_add, pk_mul, Option.bind_some, if_true, if_false, ite_true, ite_false, l_2, l_3, l_4, l_5, l_6, l_7, l_8, l_9, l_10, l_11, l_12, l_13, l_15, l_16, l_20, l_23, l_24, l_30, l_32, l_40, l_41, l_48, l_50, l_57, l_59, l_60, l_61, l_99, l_100, l_104, l_109, l_112, l_115, l_116, l_119, l_126, l_127, l_128, l_129, l_130, l_131, l_132, l_177, l_192, l_240, l_312, l_999, l_1000, l_9999, (hr.1 t (by omega)).2.2]
          rfl
      · have hz := hM.z (v := 0) hA
        unfold f_Model_thing
        rw [Model_isThing hz.k, q, Option.bind_some, if_neg (by decide), l0, e5, Model_isInR (by omega) (by omega), r1, Option.bind_some, if_neg (by decide), hz.w, hz.k.2.2.2.1]
        by_cases j3 : j < 3
        · simp (disch := omega) only [Nat.add_sub_cancel, z_in, z_cl, c_le_t, c_le_f, c_lt_t, c_lt_f, c_eq_t, c_eq_f, c_le0_t, c_le0_f, c_0le, c_lt0, c_0lt, c_eq0_f, c_eq1_f, c_eq0_t, c_eq1_t, c_1le, c_lt1, c_m1, z_sub1, z_sub, nI_1, nI_add, pk_mul, Option.bind_some, if_true, if_false, ite_true, ite_false, l_2, l_3, l_4, l_5, l_6, l_7, l_8, l_9, l_10, l_11, l_12, l_13, l_15, l_16, l_20, l_23, l_24, l_30, l_32, l_40, l_41, l_48, l_50, l_57, l_59, l_60, l_61, l_99, l_100, l_104, l_109, l_112, l_115, l_116, l_119, l_126, l_127, l_128, l_129, l_130, l_131, l_132, l_177, l_192, l_240, l_312, l_999, l_1000, l_9999]
          rw [if_pos j3]
        · simp (disch := omega) only [Nat.add_sub_cancel, z_in, z_cl, c_le_t, c_le_f, c_lt_t, c_lt_f, c_eq_t, c_eq_f, c_le0_t, c_le0_f, c_0le, c_lt0, c_0lt, c_eq0_f, c_eq1_f, c_eq0_t, c_eq1_t, c_1le, c_lt1, c_m1, z_sub1, z_sub, nI_1, nI_add, pk_mul, Option.bind_some, if_true, if_false, ite_true, ite_false, l_2, l_3, l_4, l_5, l_6, l_7, l_8, l_9, l_10, l_11, l_12, l_13, l_15, l_16, l_20, l_23, l_24, l_30, l_32, l_40, l_41, l_48, l_50, l_57, l_59, l_60, l_61, l_99, l_100, l_104, l_109, l_112, l_115, l_116, l_119, l_126, l_127, l_128, l_129, l_130, l_131, l_132, l_177, l_192, l_240, l_312, l_999, l_1000, l_9999]
          rw [if_neg j3]
theorem sim_liking (x y : Int32) : Sim (fun σ => f_Game_liking σ x y) (fun σ => f_Model_liking σ x y) := Sim.ro fun A hA => by
  have t8 := hA.T8
  have b6 := hA.B6
  rcases isS_ty (cB (gK A)) x (by omega) with q | ⟨q, b, b1, rfl⟩
  · refine ⟨-1, fun σ hC => ⟨σ, ?_, SC.refl _ _ _⟩, fun σ hM => ⟨_, ?_, SM_0 (v := 0) hM⟩⟩
    · unfold f_Game_liking; rw [Trade_isBuyer hC.k, q]; rfl
    · unfold f_Model_liking; rw [Model_isBuyer (hM.z (v := 0) hA).k, q]; rfl
  · rcases isS_ty (cT (gK A)) y (by omega) with p | ⟨p, t, t1, rfl⟩
    · refine ⟨-1, fun σ hC => ⟨σ, ?_, SC.refl _ _ _⟩, fun σ hM => ⟨_, ?_, SM_0 (v := 0) hM⟩⟩
      · unfold f_Game_liking; rw [Trade_isBuyer hC.k, q, Option.bind_some, if_neg (by decide), Trade_isThing hC.k, p]; rfl
      · unfold f_Model_liking; rw [Model_isBuyer (hM.z (v := 0) hA).k, q, Option.bind_some, if_neg (by decide), Model_isThing (hM.z (v := 0) hA).k, p]; rfl
    · have hc := hA.city (Or.inl (by omega))
      refine ⟨lkS (gK A) (gW A) b t, fun σ hC => ?_, fun σ hM => ?_⟩
      · obtain ⟨σ', g1, g2⟩ := Trade_liked hA.J hc.2.2.1 hC.k ⟨by omega, by decide +kernel⟩ hC.j (hC.n hc).1 b1 t1
        refine ⟨σ', ?_, SC_cy hA hC g2⟩
        unfold f_Game_liking
        rw [Trade_isBuyer hC.k, q, Option.bind_some, if_neg (by decide), Trade_isThing hC.k, p, Option.bind_some, if_neg (by decide), g1]; rfl
      · have hz := hM.z (v := 0) hA
        obtain ⟨σ', g1, g2, g3⟩ := Model_likingOf (a := 578) (N := 10000) hA.I hc.2.2.1 hz.k (Or.inl rfl) hz.i (by rw [hz.w]; exact hc.2.2.2.1.1) (by omega) b1 t1
        refine ⟨σ', ?_, (SM_0 (v := 0) hM).trans (SM_mx (Or.inr rfl) g2 g3.1)⟩
        unfold f_Model_liking
        rw [hz.w] at g1
        rw [Model_isBuyer hz.k, q, Option.bind_some, if_neg (by decide), Model_isThing hz.k, p, Option.bind_some, if_neg (by decide), g1]; rfl
theorem sim_status (x : Int32) : Sim (fun σ => pu (f_Game_status σ x) σ) (fun σ => f_Model_status σ x) := Sim.ru fun A hA => by
  have e5 : (5 : Int64) = lN 5 := rfl
  rcases rng0 5 x (by omega) with ⟨r1, r2⟩ | ⟨r1, r2, r3⟩ | ⟨r1, j, j1, rfl⟩
  · refine ⟨-1, fun σ hC => ?_, fun σ hM => ⟨_, ?_, SM_0 (v := 0) hM⟩⟩
    · unfold f_Game_status; rw [if_pos r1]
    · unfold f_Model_status; rw [l0, e5, Model_isInR (by omega) (by omega), r2]; rfl
  · refine ⟨-1, fun σ hC => ?_, fun σ hM => ⟨_, ?_, SM_0 (v := 0) hM⟩⟩
    · unfold f_Game_status
      have : ¬ x < (6 : Int32) := gt_lit (b := 6) (by omega) (by omega) r1 r2
      rw [if_neg r1, if_neg this]
    · unfold f_Model_status; rw [l0, e5, Model_isInR (by omega) (by omega), r3]; rfl
  · refine ⟨(gM A).1 j, fun σ hC => ?_, fun σ hM => ⟨_, ?_, SM_0 (v := 0) hM⟩⟩
    · unfold f_Game_status
      simp (disch := omega) only [Nat.add_sub_cancel, z_in, z_cl, c_le_t, c_le_f, c_lt_t, c_lt_f, c_eq_t, c_eq_f, c_le0_t, c_le0_f, c_0le, c_lt0, c_0lt, c_eq0_f, c_eq1_f, c_eq0_t, c_eq1_t, c_1le, c_lt1, c_m1, z_sub1, z_sub, nI_1, nI_add, pk_mul, Option.bind_some, if_true, if_false, ite_true, ite_false, l_2, l_3, l_4, l_5, l_6, l_7, l_8, l_9, l_10, l_11, l_12, l_13, l_15, l_16, l_20, l_23, l_24, l_30, l_32, l_40, l_41, l_48, l_50, l_57, l_59, l_60, l_61, l_99, l_100, l_104, l_109, l_112, l_115, l_116, l_119, l_126, l_127, l_128, l_129, l_130, l_131, l_132, l_177, l_192, l_240, l_312, l_999, l_1000, l_9999]
      rw [hC.2.2.2.1.1 j (by omega)]
    · unfold f_Model_status
      rw [l0, e5, Model_isInR (by omega) (by omega), r1, Option.bind_some, if_neg (by decide), row_ne (by omega)]
      simp (disch := omega) only [Nat.add_sub_cancel, z_in, z_cl, c_le_t, c_le_f, c_lt_t, c_lt_f, c_eq_t, c_eq_f, c_le0_t, c_le0_f, c_0le, c_lt0, c_0lt, c_eq0_f, c_eq1_f, c_eq0_t, c_eq1_t, c_1le, c_lt1, c_m1, z_sub1, z_sub, nI_1, nI_add, pk_mul, Option.bind_some, if_true, if_false, ite_true, ite_false, l_2, l_3, l_4, l_5, l_6, l_7, l_8, l_9, l_10, l_11, l_12, l_13, l_15, l_16, l_20, l_23, l_24, l_30, l_32, l_40, l_41, l_48, l_50, l_57, l_59, l_60, l_61, l_99, l_100, l_104, l_109, l_112, l_115, l_116, l_119, l_126, l_127, l_128, l_129, l_130, l_131, l_132, l_177, l_192, l_240, l_312, l_999, l_1000, l_9999]
      rw [hM.2.2.2.1.1 j (by omega)]
theorem dueS_RS {σ : Mem} {o n : Nat} {K : Cy} {w : Rw} {b : Int32} (hr : RS σ o K w) (hn : n ≤ 24) (hm : w 126 = nI n) : f_State_dueOf σ o b = some (dueS (fun k => w (30 + k)) b n) := by
  have hd := State_dueOf (b := b) (hr.2.2.2.2.2.1.1.trans hm) hn
  rw [dueS_congr n fun k hk => hr.2.2.2.2.1 k (by rw [mny_eq hn hm]; exact hk)] at hd
  exact hd
theorem dueA_RS {σ : Mem} {o n : Nat} {K : Cy} {w : Rw} (hr : RS σ o K w) (hn : n ≤ 24) (hm : w 126 = nI n) : f_State_dueOfAll σ o = some (dueA (fun k => w (30 + k)) n) := by
  have hd := State_dueOfAll (hr.2.2.2.2.2.1.1.trans hm) hn
  rw [dueA_congr n fun k hk => hr.2.2.2.2.1 k (by rw [mny_eq hn hm]; exact hk)] at hd
  exact hd
theorem cntS_RS {σ : Mem} {o n : Nat} {K : Cy} {w : Rw} {b : Int32} (hr : RS σ o K w) (hn : n ≤ 24) (hm : w 126 = nI n) : f_State_billsOf σ o b = some (cntS (fun k => w (30 + k)) b n) := by
  have hd := State_billsOf (b := b) (hr.2.2.2.2.2.1.1.trans hm) hn
  rw [cntS_congr n fun k hk => hr.2.2.2.2.1 k (by rw [mny_eq hn hm]; exact hk)] at hd
  exact hd
theorem ln578 : 131 ≤ ln 578 := ln_row (Or.inl rfl)
theorem ln579 : 131 ≤ ln 579 := ln_row (Or.inr rfl)
