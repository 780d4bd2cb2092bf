/-! the reference: why an act can't be; what it does; the hour with its log -/
theorem Model_isBuyer {σ : Mem} {K : Cy} {x : Int32} (h : MK σ K) : f_Model_isBuyer σ x = some (isS (cB K) x) := by
  unfold f_Model_isBuyer isS
  rw [h.2.1]
  by_cases q : x < 0
  · rw [if_pos q, if_pos q]
  · rw [if_neg q, if_neg q]
    by_cases q2 : nI (cB K) ≤ x
    · rw [if_pos q2, if_pos q2]
    · rw [if_neg q2, if_neg q2]
theorem Model_isThing {σ : Mem} {K : Cy} {x : Int32} (h : MK σ K) : f_Model_isThing σ x = some (isS (cT K) x) := by
  unfold f_Model_isThing isS
  rw [h.1]
  by_cases q : x < 0
  · rw [if_pos q, if_pos q]
  · rw [if_neg q, if_neg q]
    by_cases q2 : nI (cT K) ≤ x
    · rw [if_pos q2, if_pos q2]
    · rw [if_neg q2, if_neg q2]
theorem Model_stops_J114 {σ : Mem} {K : Cy} {a b t d : Nat} {y : Int32} (ha : a = 578 ∨ a = 579) (hT : cT K ≤ 8) (hB : cB K ≤ 6) (h : MK σ K) (hb : b < cB K) (ht : t < cT K) (hd : d ≤ 3) : f_Model_stops_J114 σ a (nI d) (nI b) y (nI t) = some (if d = 3 then (if cW K (3 * t) ≤ mI σ a (24 + b) then -1 else 4) else -1) := by
  have hln := ln_row ha
  unfold f_Model_stops_J114
  by_cases d3 : d = 3
  · subst d3
    have e1 : inb ((24 : Int32) + nI b) (ln a) = true := by simp (disch := omega) only [Nat.add_sub_cancel, z_in, z_cl, c_le_t, c_le_f, c_lt_t, c_lt_f, c_eq_t, c_eq_f, c_le0_t, c_le0_f, c_0le, c_lt0, c_0lt, c_eq0_f, c_eq1_f, c_eq0_t, c_eq1_t, c_1le, c_lt1, c_m1, z_sub1, z_sub, nI_1, nI_add, pk_mul, Option.bind_some, if_true, if_false, ite_true, ite_false, l_2, l_3, l_4, l_5, l_6, l_7, l_8, l_9, l_10, l_11, l_12, l_13, l_15, l_16, l_20, l_23, l_24, l_30, l_32, l_40, l_41, l_48, l_50, l_57, l_59, l_60, l_61, l_99, l_100, l_104, l_109, l_112, l_115, l_116, l_119, l_126, l_127, l_128, l_129, l_130, l_131, l_132, l_177, l_192, l_240, l_312, l_999, l_1000, l_9999, z_inr]
    have e2 : inb ((3 : Int32) * nI t) 24 = true := by simp (disch := omega) only [Nat.add_sub_cancel, z_in, z_cl, c_le_t, c_le_f, c_lt_t, c_lt_f, c_eq_t, c_eq_f, c_le0_t, c_le0_f, c_0le, c_lt0, c_0lt, c_eq0_f, c_eq1_f, c_eq0_t, c_eq1_t, c_1le, c_lt1, c_m1, z_sub1, z_sub, nI_1, nI_add, pk_mul, Option.bind_some, if_true, if_false, ite_true, ite_false, l_2, l_3, l_4, l_5, l_6, l_7, l_8, l_9, l_10, l_11, l_12, l_13, l_15, l_16, l_20, l_23, l_24, l_30, l_32, l_40, l_41, l_48, l_50, l_57, l_59, l_60, l_61, l_99, l_100, l_104, l_109, l_112, l_115, l_116, l_119, l_126, l_127, l_128, l_129, l_130, l_131, l_132, l_177, l_192, l_240, l_312, l_999, l_1000, l_9999]
    have e3 : ((24 : Int32) + nI b).toNatClampNeg = 24 + b := by simp (disch := omega) only [Nat.add_sub_cancel, z_in, z_cl, c_le_t, c_le_f, c_lt_t, c_lt_f, c_eq_t, c_eq_f, c_le0_t, c_le0_f, c_0le, c_lt0, c_0lt, c_eq0_f, c_eq1_f, c_eq0_t, c_eq1_t, c_1le, c_lt1, c_m1, z_sub1, z_sub, nI_1, nI_add, pk_mul, Option.bind_some, if_true, if_false, ite_true, ite_false, l_2, l_3, l_4, l_5, l_6, l_7, l_8, l_9, l_10, l_11, l_12, l_13, l_15, l_16, l_20, l_23, l_24, l_30, l_32, l_40, l_41, l_48, l_50, l_57, l_59, l_60, l_61, l_99, l_100, l_104, l_109, l_112, l_115, l_116, l_119, l_126, l_127, l_128, l_129, l_130, l_131, l_132, l_177, l_192, l_240, l_312, l_999, l_1000, l_9999]
    have e4 : ((3 : Int32) * nI t).toNatClampNeg = 3 * t := by simp (disch := omega) only [Nat.add_sub_cancel, z_in, z_cl, c_le_t, c_le_f, c_lt_t, c_lt_f, c_eq_t, c_eq_f, c_le0_t, c_le0_f, c_0le, c_lt0, c_0lt, c_eq0_f, c_eq1_f, c_eq0_t, c_eq1_t, c_1le, c_lt1, c_m1, z_sub1, z_sub, nI_1, nI_add, pk_mul, Option.bind_some, if_true, if_false, ite_true, ite_false, l_2, l_3, l_4, l_5, l_6, l_7, l_8, l_9, l_10, l_11, l_12, l_13, l_15, l_16, l_20, l_23, l_24, l_30, l_32, l_40, l_41, l_48, l_50, l_57, l_59, l_60, l_61, l_99, l_100, l_104, l_109, l_112, l_115, l_116, l_119, l_126, l_127, l_128, l_129, l_130, l_131, l_132, l_177, l_192, l_240, l_312, l_999, l_1000, l_9999]
    rw [if_pos (show nI 3 = (3 : Int32) from rfl), if_pos e1, if_pos e2, if_pos rfl, e3, e4, h.2.2.2.1]
    split <;> rfl
  · rw [if_neg (show ¬ nI d = (3 : Int32) from fun q => d3 (nI_inj6 (b := 3) (by omega) (by omega) q)), if_neg d3]
theorem Model_stops {σ : Mem} {K : Cy} {a d : Nat} {x y : Int32} (ha : a = 578 ∨ a = 579) (hT : cT K ≤ 8) (hB : cB K ≤ 6) (h : MK σ K) (hd : d ≤ 3) : f_Model_stops σ a (nI d) x y = some (whS K (mI σ a) d x y) := by
  have hln := ln_row ha
  have n0 : (nI d = (0 : Int32)) = (d = 0) := propext ⟨fun q => nI_inj6 (b := 0) (by omega) (by omega) q, fun q => by rw [q]; rfl⟩
  have n2 : (nI d = (2 : Int32)) = (d = 2) := propext ⟨fun q => nI_inj6 (b := 2) (by omega) (by omega) q, fun q => by rw [q]; rfl⟩
  unfold f_Model_stops whS
  rw [Model_isBuyer h, Option.bind_some, Model_isThing h]
  unfold f_Model_stops_J21 f_Model_stops_J37 f_Model_stops_J88
  rw [Model_isBuyer h, Model_holds hln h.1 hT, Option.bind_some]
  simp only [n0, n2, Option.bind_some]
  rcases isS_ty (cB K) x (by omega) with q | ⟨q, b, b1, b2⟩
  · unfold st0 st1 st2 st3
    simp only [q, if_true]
    split
    · rfl
    · split
      · rfl
      · split <;> rfl
  · have nq : ¬ isS (cB K) x = 0 := by rw [q]; decide
    subst b2
    rw [if_neg nq]
    by_cases d0 : d = 0
    · simp only [d0, if_true, show ¬ (0 = 2) by omega, if_false]
      unfold st0
      rw [if_neg nq]
      rcases isS_ty (cT K) y (by omega) with p | ⟨p, t, t1, t2⟩
      · rw [if_pos p, if_pos p]
      · have np : ¬ isS (cT K) y = 0 := by rw [p]; decide
        subst t2
        rw [if_neg np, if_neg np, Model_isFree ha h.1 hT t1, Option.bind_some, nI_clamp (by omega)]
        by_cases c1 : mI σ a t = -1
        · rw [if_pos c1, if_pos c1, if_neg (by decide)]
          split <;> rfl
        · rw [if_neg c1, if_neg c1, if_pos rfl]
    · simp only [d0, if_false]
      by_cases d2 : d = 2
      · subst d2
        simp only [if_true, show ¬ (2 = 1) by omega, if_false]
        unfold st2
        rw [if_neg nq]
        rcases isS_ty (cB K) y (by omega) with p | ⟨p, t, t1, t2⟩
        · rw [if_pos p, if_pos p]
        · have np : ¬ isS (cB K) y = 0 := by rw [p]; decide
          subst t2
          rw [if_neg np, if_neg np]
          by_cases c1 : nI b = nI t
          · rw [if_pos c1, if_pos c1]
          · rw [if_neg c1, if_neg c1]
            rcases holdS_ty (mI σ a) (cT K) (nI b) with c | ⟨u, u1, u2⟩
            · rw [if_pos c, if_pos c]
            · have nc : ¬ holdS (mI σ a) (cT K) (nI b) = -1 := by rw [u2]; exact nI_ne_m1 (by omega)
              rw [if_neg nc, if_neg nc, Model_holds hln h.1 hT, Option.bind_some, u2, Model_stops_J114 ha hT hB h b1 u1 (by omega)]
              split <;> rfl
      · simp only [d2, if_false]
        rcases holdS_ty (mI σ a) (cT K) (nI b) with c | ⟨u, u1, u2⟩
        · unfold st1 st3
          simp only [c, if_true, nq, if_false]
          split <;> rfl
        · have nc : ¬ holdS (mI σ a) (cT K) (nI b) = -1 := by rw [u2]; exact nI_ne_m1 (by omega)
          rw [if_neg nc, u2, Model_stops_J114 ha hT hB h b1 u1 hd]
          unfold st1 st3 hdS
          rw [if_neg nq, if_neg nq, if_neg nc, if_neg nc, u2, nI_clamp (by omega), nI_clamp (by omega)]
          by_cases d1 : d = 1
          · rw [if_pos d1, if_neg (by omega)]
          · rw [if_neg d1, if_pos (by omega)]
theorem Model_does {I : Mem → Prop} {K : Cy} {σ : Mem} {a d N : Nat} {x y : Int32} (hI : LkM I (cL K)) (hK : CyOk K) (h : MK σ K) (ha : a = 578 ∨ a = 579) (hi : I σ) (hw : Wf (cT K) (cB K) N (mI σ a)) (hN : N < 2 ^ 30) (hd : d ≤ 3) (hwh : whS K (mI σ a) d x y = -1) : ∃ σ', f_Model_does σ a (nI d) x y = some ((doS K (mI σ a) d x y).1, σ') ∧ MR I a σ (doS K (mI σ a) d x y).2 σ' := by
  have hln := ln_row ha
  have h8 := hK.1
  have h6 := hK.2.1
  have hwd := (doS_wf hK hw hwh).1
  have n0 : (nI d = (0 : Int32)) = (d = 0) := propext ⟨fun q => nI_inj6 (b := 0) (by omega) (by omega) q, fun q => by rw [q]; rfl⟩
  have n1 : (nI d = (1 : Int32)) = (d = 1) := propext ⟨fun q => nI_inj6 (b := 1) (by omega) (by omega) q, fun q => by rw [q]; rfl⟩
  have n2 : (nI d = (2 : Int32)) = (d = 2) := propext ⟨fun q => nI_inj6 (b := 2) (by omega) (by omega) q, fun q => by rw [q]; rfl⟩
  unfold whS at hwh
  unfold f_Model_does
  rw [Model_holds hln h.1 h8, Option.bind_some]
  simp only [n0, n1, n2]
  unfold doS at hwd ⊢
  unfold hdS at hwd ⊢
  by_cases d0 : d = 0
  · simp only [d0, if_true] at hwh hwd ⊢
    obtain ⟨b, t, b1, t1, rfl, rfl, c1, c2⟩ := st0_go hK hwh
    have e1 : inb ((16 : Int32) + nI t) (ln a) = true := by simp (disch := omega) only [Nat.add_sub_cancel, z_in, z_cl, c_le_t, c_le_f, c_lt_t, c_lt_f, c_eq_t, c_eq_f, c_le0_t, c_le0_f, c_0le, c_lt0, c_0lt, c_eq0_f, c_eq1_f, c_eq0_t, c_eq1_t, c_1le, c_lt1, c_m1, z_sub1, z_sub, nI_1, nI_add, pk_mul, Option.bind_some, if_true, if_false, ite_true, ite_false, l_2, l_3, l_4, l_5, l_6, l_7, l_8, l_9, l_10, l_11, l_12, l_13, l_15, l_16, l_20, l_23, l_24, l_30, l_32, l_40, l_41, l_48, l_50, l_57, l_59, l_60, l_61, l_99, l_100, l_104, l_109, l_112, l_115, l_116, l_119, l_126, l_127, l_128, l_129, l_130, l_131, l_132, l_177, l_192, l_240, l_312, l_999, l_1000, l_9999, z_inr]
    have e2 : ((16 : Int32) + nI t).toNatClampNeg = 16 + t := by simp (disch := omega) only [Nat.add_sub_cancel, z_in, z_cl, c_le_t, c_le_f, c_lt_t, c_lt_f, c_eq_t, c_eq_f, c_le0_t, c_le0_f, c_0le, c_lt0, c_0lt, c_eq0_f, c_eq1_f, c_eq0_t, c_eq1_t, c_1le, c_lt1, c_m1, z_sub1, z_sub, nI_1, nI_add, pk_mul, Option.bind_some, if_true, if_false, ite_true, ite_false, l_2, l_3, l_4, l_5, l_6, l_7, l_8, l_9, l_10, l_11, l_12, l_13, l_15, l_16, l_20, l_23, l_24, l_30, l_32, l_40, l_41, l_48, l_50, l_57, l_59, l_60, l_61, l_99, l_100, l_104, l_109, l_112, l_115, l_116, l_119, l_126, l_127, l_128, l_129, l_130, l_131, l_132, l_177, l_192, l_240, l_312, l_999, l_1000, l_9999]
    rw [if_pos (z_inr (by omega) hln), if_pos e1, e2, nI_clamp (by omega), nI_clamp (by omega)]
    rw [nI_clamp (by omega), nI_clamp (by omega)] at hwd
    have r1 : MR I a σ (pkS (mI σ a) b t) (sI (sI σ a t (nI b)) a (16 + t) 0) := ((MR.refl hi).up hI ha).up hI ha
    obtain ⟨σ2, g1, g2, g3⟩ := Model_likingOf hI hK (h.fr ha r1.2.1) ha r1.2.2 (by rw [r1.1]; exact hwd) hN b1 t1
    have r2 := MR.of ha g2 g3
    rw [r1.1] at g1 r2
    rw [g1]
    exact ⟨σ2, rfl, r1.trans r2⟩
  · simp only [d0, if_false] at hwh hwd ⊢
    by_cases d1 : d = 1
    · simp only [d1, if_true] at hwh hwd ⊢
      obtain ⟨b, t, b1, t1, rfl, c1⟩ := st1_go hK hwh
      rw [c1, nI_clamp (by omega), nI_clamp (by omega)]
      obtain ⟨σ2, g1, g2⟩ := Model_goesBack hI hK h ha hi hw b1 c1 (by omega)
      rw [g1]
      exact ⟨σ2, rfl, g2⟩
    · simp only [d1, if_false] at hwh hwd ⊢
      by_cases d2 : d = 2
      · simp only [d2, if_true] at hwh hwd ⊢
        obtain ⟨b, c, t, b1, b2, b3, t1, rfl, rfl, c1, c2⟩ := st2_go hK hwh
        rw [c1, nI_clamp (by omega), if_pos (z_inr (by omega) hln)]
        exact ⟨_, rfl, (MR.refl hi).up hI ha⟩
      · simp only [d2, if_false] at hwh hwd ⊢
        obtain ⟨b, t, b1, t1, rfl, c1, c2⟩ := st3_go hK hwh
        rw [c1, nI_clamp (by omega), nI_clamp (by omega)]
        obtain ⟨σ2, g1, g2⟩ := Model_buys hI hK h ha hi hw b1 c1 (by omega)
        rw [g1]
        exact ⟨σ2, rfl, g2⟩
theorem Model_holders {σ : Mem} {K : Cy} {a : Nat} (ha : a = 578 ∨ a = 579) (hT : cT K ≤ 8) (hB : cB K ≤ 6) (h : MK σ K) : f_Model_holders σ a = some (hbS (mI σ a) (cT K) (cB K)) := by
  have hln := ln_row ha
  unfold f_Model_holders
  refine loopF_count (fun i => (hbS (mI σ a) (cT K) i, nI i)) _ (cB K) 0 (fun j _ hj => ?_) ?_ FU (by unfold FU; omega)
  · unfold f_Model_holders_L4
    simp only [h.2.1, c_le_f (show j < cB K by omega) (show cB K < 2 ^ 31 by omega), if_false, Model_holds hln h.1 hT, Option.bind_some, nI_1]
    show _ = some (Sum.inl ((if _ then _ else _), _))
    by_cases q : holdS (mI σ a) (cT K) (nI j) = -1
    · rw [if_pos q, if_pos q, Int32.or_zero]
    · rw [if_neg q, if_neg q]
  · unfold f_Model_holders_L4
    rw [Nat.zero_add]
    simp only [h.2.1, c_le_t (Nat.le_refl (cB K)) (show cB K < 2 ^ 31 by omega), if_true]
