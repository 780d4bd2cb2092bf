/-! the log, bills -/
theorem sim_log (x y : Int32) : Sim (fun σ => pu (f_Game_log σ x y) σ) (fun σ => f_Model_log σ x y) := Sim.ru fun A hA => by
  have e2 : (2 : Int64) = lN 2 := rfl
  have l131 : (131 : Int32).toNatClampNeg = 131 := by decide
  have hn : ∃ n, n ≤ 60 ∧ gW A 131 = nI n := by
    rcases hA.cs with q | q
    · exact ⟨0, by omega, q.2.2.2.2.2⟩
    · exact q.2.2.2.1.2.1
  obtain ⟨n, n1, n2⟩ := hn
  have cq : ∀ σ, CRel σ A → f_Game_log σ x y = if x < 0 then some (-1) else if nI n ≤ x then some (-1) else if y < 0 then some (-1) else if y ≤ 2 then (if inb ((nI n - 1 - x) * 3 + y) 180 then some (mI σ 15 ((nI n - 1 - x) * 3 + y).toNatClampNeg) else none) else some (-1) := fun σ h => by
    unfold f_Game_log
    rw [h.2.2.2.2.2.2.1.1.2.1, n2]
  by_cases hn0 : n = 0
  · subst hn0
    refine ⟨-1, fun σ h => ?_, fun σ hM => ⟨sI σ 565 0 0, ?_, SM_0 (v := 0) hM⟩⟩
    · rw [cq σ h]
      by_cases q : x < 0
      · rw [if_pos q]
      · rw [if_neg q, if_pos (show nI 0 ≤ x from Int32.not_lt.mp q)]
    · have hz := hM.z (v := 0) hA
      unfold f_Model_log
      rw [hz.w, l131, n2, show (nI 0 - (1 : Int32)).toInt64 = -1 from rfl, Model_isIn]
      have : (if x.toInt64 < (0 : Int64) then (0 : Int32) else if (-1 : Int64) < x.toInt64 then 0 else 1) = 0 := by
        by_cases q : x.toInt64 < (0 : Int64)
        · rw [if_pos q]
        · rw [if_neg q]
          have : (-1 : Int64) < x.toInt64 := by
            rw [Int64.lt_iff_toInt_lt] at q ⊢
            rw [show (0 : Int64).toInt = 0 from rfl] at q
            rw [show (-1 : Int64).toInt = -1 from rfl]
            omega
          rw [if_pos this]
      rw [this]; rfl
  · have mq : ∀ σ, MRel σ A → f_Model_log σ x y = (f_Model_isIn (sI σ 565 0 0) x.toInt64 0 (lN (n - 1))).bind fun q1 => if q1 = 0 then some (-1, sI σ 565 0 0) else (f_Model_isIn (sI σ 565 0 0) y.toInt64 0 2).bind fun q3 => if q3 = 0 then some (-1, sI σ 565 0 0) else if inb (132 + 3 * (nI (n - 1) - x) + y) 312 then some (gW A (132 + 3 * (nI (n - 1) - x) + y).toNatClampNeg, sI σ 565 0 0) else none := fun σ hM => by
      have hz := hM.z (v := 0) hA
      unfold f_Model_log
      rw [hz.w, l131, n2, show nI n - (1 : Int32) = nI (n - 1) from pk_sub (b := 1) (by omega), nI_l (by omega)]
    have hc : hasC A := by
      rcases hA.cs with q | q
      · have := nI_inj6 (b := 0) (by omega) (by omega) (n2.symm.trans q.2.2.2.2.2)
        omega
      · exact q
    rcases rng0 (n - 1) x (by omega) with ⟨r1, r2⟩ | ⟨r1, r2, r3⟩ | ⟨r1, j, j1, rfl⟩
    · refine ⟨-1, fun σ h => ?_, fun σ hM => ⟨sI σ 565 0 0, ?_, SM_0 (v := 0) hM⟩⟩
      · rw [cq σ h, if_pos r1]
      · rw [mq σ hM, l0, Model_isInR (by omega) (by omega), r2]; rfl
    · refine ⟨-1, fun σ h => ?_, fun σ hM => ⟨sI σ 565 0 0, ?_, SM_0 (v := 0) hM⟩⟩
      · rw [cq σ h, if_neg r1, if_pos (Int32.not_lt.mp (gt_lit (by omega) (by omega) r1 r2))]
      · rw [mq σ hM, l0, Model_isInR (by omega) (by omega), r3]; rfl
    · rcases rng0 2 y (by omega) with ⟨s1, s2⟩ | ⟨s1, s2, s3⟩ | ⟨s1, k, k1, rfl⟩
      · refine ⟨-1, fun σ h => ?_, fun σ hM => ⟨sI σ 565 0 0, ?_, SM_0 (v := 0) hM⟩⟩
        · rw [cq σ h, if_neg (nI_pos (by omega)), if_neg (nI_ge (by omega) (by omega)), if_pos s1]
        · rw [mq σ hM, l0, Model_isInR (by omega) (by omega), r1, Option.bind_some, if_neg (by decide), e2, Model_isInR (by omega) (by omega), s2]; rfl
      · refine ⟨-1, fun σ h => ?_, fun σ hM => ⟨sI σ 565 0 0, ?_, SM_0 (v := 0) hM⟩⟩
        · rw [cq σ h, if_neg (nI_pos (by omega)), if_neg (nI_ge (by omega) (by omega)), if_neg s1, if_neg (show ¬ y ≤ (2 : Int32) from Int32.not_le.mpr s2)]
        · rw [mq σ hM, l0, Model_isInR (by omega) (by omega), r1, Option.bind_some, if_neg (by decide), e2, Model_isInR (by omega) (by omega), s3]; rfl
      · refine ⟨gW A (132 + 3 * (n - 1 - j) + k), fun σ h => ?_, fun σ hM => ⟨sI σ 565 0 0, ?_, SM_0 (v := 0) hM⟩⟩
        · have hg := (h.n hc).2.2.2 (3 * (n - 1 - j) + k) (by rw [lnS_eq n1 n2]; omega)
          rw [cq σ h]
          simp (disch := omega) only [Nat.add_sub_cancel, z_in, z_cl, c_le_t, c_le_f, c_lt_t, c_lt_f, c_eq_t, c_eq_f, c_le0_t, c_le0_f, c_0le, c_lt0, c_0lt, c_eq0_f, c_eq1_f, c_eq0_t, c_eq1_t, c_1le, c_lt1, c_m1, z_sub1, z_sub, nI_1, nI_add, pk_mul, Option.bind_some, if_true, if_false, ite_true, ite_false, l_2, l_3, l_4, l_5, l_6, l_7, l_8, l_9, l_10, l_11, l_12, l_13, l_15, l_16, l_20, l_23, l_24, l_30, l_32, l_40, l_41, l_48, l_50, l_57, l_59, l_60, l_61, l_99, l_100, l_104, l_109, l_112, l_115, l_116, l_119, l_126, l_127, l_128, l_129, l_130, l_131, l_132, l_177, l_192, l_240, l_312, l_999, l_1000, l_9999, Nat.mul_comm (n - 1 - j) 3]
          rw [show mI σ 15 (3 * (n - 1 - j) + k) = _ from hg, Nat.add_assoc]
        · rw [mq σ hM, l0, Model_isInR (by omega) (by omega), r1, Option.bind_some, if_neg (by decide), e2, Model_isInR (by omega) (by omega), s1, Option.bind_some, if_neg (by decide)]
          simp (disch := omega) only [Nat.add_sub_cancel, z_in, z_cl, c_le_t, c_le_f, c_lt_t, c_lt_f, c_eq_t, c_eq_f, c_le0_t, c_le0_f, c_0le, c_lt0, c_0lt, c_eq0_f, c_eq1_f, c_eq0_t, c_eq1_t, c_1le, c_lt1, c_m1, z_sub1, z_sub, nI_1, nI_add, pk_mul, Option.bind_some, if_true, if_false, ite_true, ite_false, l_2, l_3, l_4, l_5, l_6, l_7, l_8, l_9, l_10, l_11, l_12, l_13, l_15, l_16, l_20, l_23, l_24, l_30, l_32, l_40, l_41, l_48, l_50, l_57, l_59, l_60, l_61, l_99, l_100, l_104, l_109, l_112, l_115, l_116, l_119, l_126, l_127, l_128, l_129, l_130, l_131, l_132, l_177, l_192, l_240, l_312, l_999, l_1000, l_9999]
/-- the i-th bill of buyer b among the bills from k on (m of them): where it is -/
def biS (f : Rw) (b : Int32) : Nat → Nat → Nat → Option Nat
  | 0, _, _ => none
  | m + 1, k, i => if f (4 * k) = b then (match i with | 0 => some k | i + 1 => biS f b m (k + 1) i) else biS f b m (k + 1) i
theorem biS_lt {f : Rw} {b : Int32} : ∀ m k i j, biS f b m k i = some j → k ≤ j ∧ j < k + m := by
  intro m
  induction m with
  | zero => intro k i j h; cases h
  | succ m ih =>
    intro k i j h
    unfold biS at h
    by_cases q : f (4 * k) = b
    · rw [if_pos q] at h
      cases i with
      | zero => cases h; omega
      | succ i => have := ih _ _ _ h; omega
    · rw [if_neg q] at h
      have := ih _ _ _ h
      omega
theorem State_billRow_loop {σ : Mem} {o n : Nat} {b x : Int32} (hc : mI σ o 9 = nI n) (hn : n ≤ 24) : ∀ m k i fu, k + m = n → m < fu → i < 2 ^ 31 → loopF (f_State_billRow_L5 σ o b x) fu (nI i, nI k) = some (match biS (mI σ (o + 8)) b m k i with | none => -1 | some j => nI (4 * j)) := by
  intro m
  induction m with
  | zero =>
    intro k i fu hk hf hi
    obtain ⟨fu, rfl⟩ : ∃ g, fu = g + 1 := ⟨fu - 1, by omega⟩
    refine loopF_inr ?_
    unfold f_State_billRow_L5
    simp (disch := omega) only [Nat.add_sub_cancel, z_in, z_cl, c_le_t, c_le_f, c_lt_t, c_lt_f, c_eq_t, c_eq_f, c_le0_t, c_le0_f, c_0le, c_lt0, c_0lt, c_eq0_f, c_eq1_f, c_eq0_t, c_eq1_t, c_1le, c_lt1, c_m1, z_sub1, z_sub, nI_1, nI_add, pk_mul, Option.bind_some, if_true, if_false, ite_true, ite_false, l_2, l_3, l_4, l_5, l_6, l_7, l_8, l_9, l_10, l_11, l_12, l_13, l_15, l_16, l_20, l_23, l_24, l_30, l_32, l_40, l_41, l_48, l_50, l_57, l_59, l_60, l_61, l_99, l_100, l_104, l_109, l_112, l_115, l_116, l_119, l_126, l_127, l_128, l_129, l_130, l_131, l_132, l_177, l_192, l_240, l_312, l_999, l_1000, l_9999, hc]
    rfl
  | succ m ih =>
    intro k i fu hk hf hi
    obtain ⟨fu, rfl⟩ : ∃ g, fu = g + 1 := ⟨fu - 1, by omega⟩
    have step : f_State_billRow_L5 σ o b x (nI i, nI k) = if mI σ (o + 8) (4 * k) = b then (if nI i = 0 then some (.inr (nI (4 * k))) else some (.inl (nI i + (-1), nI (k + 1)))) else some (.inl (nI i, nI (k + 1))) := by
      unfold f_State_billRow_L5
      simp (disch := omega) only [Nat.add_sub_cancel, z_in, z_cl, c_le_t, c_le_f, c_lt_t, c_lt_f, c_eq_t, c_eq_f, c_le0_t, c_le0_f, c_0le, c_lt0, c_0lt, c_eq0_f, c_eq1_f, c_eq0_t, c_eq1_t, c_1le, c_lt1, c_m1, z_sub1, z_sub, nI_1, nI_add, pk_mul, Option.bind_some, if_true, if_false, ite_true, ite_false, l_2, l_3, l_4, l_5, l_6, l_7, l_8, l_9, l_10, l_11, l_12, l_13, l_15, l_16, l_20, l_23, l_24, l_30, l_32, l_40, l_41, l_48, l_50, l_57, l_59, l_60, l_61, l_99, l_100, l_104, l_109, l_112, l_115, l_116, l_119, l_126, l_127, l_128, l_129, l_130, l_131, l_132, l_177, l_192, l_240, l_312, l_999, l_1000, l_9999, hc, Nat.mul_comm k 4]
    unfold biS
    by_cases q : mI σ (o + 8) (4 * k) = b
    · rw [if_pos q] at step
      rw [if_pos q]
      cases i with
      | zero =>
        rw [if_pos (show nI 0 = (0 : Int32) from rfl)] at step
        exact loopF_inr step
      | succ i =>
        rw [if_neg (nI_ne0 (by omega) (by omega)), pk_m1] at step
        rw [loopF_inl step]
        exact ih (k + 1) i fu (by omega) (by omega) (by omega)
    · rw [if_neg q] at step
      rw [if_neg q, loopF_inl step]
      exact ih (k + 1) i fu (by omega) (by omega) hi
theorem State_billRow_neg {σ : Mem} {o n : Nat} {b x y : Int32} (hc : mI σ o 9 = nI n) (hn : n ≤ 24) (hx : x < 0) : ∀ m k d fu, k + m = n → d ≤ k → m < fu → loopF (f_State_billRow_L5 σ o b y) fu (x - nI d, nI k) = some (-1) := by
  intro m
  induction m with
  | zero =>
    intro k d fu hk hd hf
    obtain ⟨fu, rfl⟩ : ∃ g, fu = g + 1 := ⟨fu - 1, by omega⟩
    refine loopF_inr ?_
    unfold f_State_billRow_L5
    simp (disch := omega) only [Nat.add_sub_cancel, z_in, z_cl, c_le_t, c_le_f, c_lt_t, c_lt_f, c_eq_t, c_eq_f, c_le0_t, c_le0_f, c_0le, c_lt0, c_0lt, c_eq0_f, c_eq1_f, c_eq0_t, c_eq1_t, c_1le, c_lt1, c_m1, z_sub1, z_sub, nI_1, nI_add, pk_mul, Option.bind_some, if_true, if_false, ite_true, ite_false, l_2, l_3, l_4, l_5, l_6, l_7, l_8, l_9, l_10, l_11, l_12, l_13, l_15, l_16, l_20, l_23, l_24, l_30, l_32, l_40, l_41, l_48, l_50, l_57, l_59, l_60, l_61, l_99, l_100, l_104, l_109, l_112, l_115, l_116, l_119, l_126, l_127, l_128, l_129, l_130, l_131, l_132, l_177, l_192, l_240, l_312, l_999, l_1000, l_9999, hc]
  | succ m ih =>
    intro k d fu hk hd hf
    obtain ⟨fu, rfl⟩ : ∃ g, fu = g + 1 := ⟨fu - 1, by omega⟩
    have step : f_State_billRow_L5 σ o b y (x - nI d, nI k) = if mI σ (o + 8) (4 * k) = b then (if x - nI d = 0 then some (.inr (nI (4 * k))) else some (.inl (x - nI d + (-1), nI (k + 1)))) else some (.inl (x - nI d, nI (k + 1))) := by
      unfold f_State_billRow_L5
      simp (disch := omega) only [Nat.add_sub_cancel, z_in, z_cl, c_le_t, c_le_f, c_lt_t, c_lt_f, c_eq_t, c_eq_f, c_le0_t, c_le0_f, c_0le, c_lt0, c_0lt, c_eq0_f, c_eq1_f, c_eq0_t, c_eq1_t, c_1le, c_lt1, c_m1, z_sub1, z_sub, nI_1, nI_add, pk_mul, Option.bind_some, if_true, if_false, ite_true, ite_false, l_2, l_3, l_4, l_5, l_6, l_7, l_8, l_9, l_10, l_11, l_12, l_13, l_15, l_16, l_20, l_23, l_24, l_30, l_32, l_40, l_41, l_48, l_50, l_57, l_59, l_60, l_61, l_99, l_100, l_104, l_109, l_112, l_115, l_116, l_119, l_126, l_127, l_128, l_129, l_130, l_131, l_132, l_177, l_192, l_240, l_312, l_999, l_1000, l_9999, hc, Nat.mul_comm k 4]
    have hne : ¬ x - nI d = 0 := fun q => by
      have : x = nI d := by
        have := congrArg (· + nI d) q
        simp only [Int32.sub_add_cancel, Int32.zero_add] at this
        exact this
      rw [this] at hx
      exact nI_pos (by omega) hx
    have e1 : x - nI d + (-1) = x - nI (d + 1) := by
      simp only [nI_succ, Int32.sub_eq_add_neg, Int32.neg_add, Int32.add_assoc]
    by_cases q : mI σ (o + 8) (4 * k) = b
    · rw [if_pos q, if_neg hne, e1] at step
      rw [loopF_inl step]
      exact ih (k + 1) (d + 1) fu (by omega) (by omega) (by omega)
    · rw [if_neg q] at step
      rw [loopF_inl step]
      exact ih (k + 1) d fu (by omega) (by omega) (by omega)
theorem Model_bill_loop {σ : Mem} {n w : Nat} {b : Int32} (hc : mI σ 578 126 = nI n) (hn : n ≤ 24) (hw : w ≤ 2) : ∀ m k i c fu, k + m = n → m < fu → c ≤ i → i < 2 ^ 31 → loopF (f_Model_bill_L37 σ b (nI i) (nI w)) fu (nI c, nI k) = some (match biS (fun k => mI σ 578 (30 + k)) b m k (i - c) with | none => (-1, σ) | some j => (mI σ 578 (30 + 4 * j + 1 + w), σ)) := by
  have l126 : (126 : Int32).toNatClampNeg = 126 := by decide
  intro m
  induction m with
  | zero =>
    intro k i c fu hk hf hci hi
    obtain ⟨fu, rfl⟩ : ∃ g, fu = g + 1 := ⟨fu - 1, by omega⟩
    refine loopF_inr ?_
    unfold f_Model_bill_L37
    simp (disch := omega) only [Nat.add_sub_cancel, z_in, z_cl, c_le_t, c_le_f, c_lt_t, c_lt_f, c_eq_t, c_eq_f, c_le0_t, c_le0_f, c_0le, c_lt0, c_0lt, c_eq0_f, c_eq1_f, c_eq0_t, c_eq1_t, c_1le, c_lt1, c_m1, z_sub1, z_sub, nI_1, nI_add, pk_mul, Option.bind_some, if_true, if_false, ite_true, ite_false, l_2, l_3, l_4, l_5, l_6, l_7, l_8, l_9, l_10, l_11, l_12, l_13, l_15, l_16, l_20, l_23, l_24, l_30, l_32, l_40, l_41, l_48, l_50, l_57, l_59, l_60, l_61, l_99, l_100, l_104, l_109, l_112, l_115, l_116, l_119, l_126, l_127, l_128, l_129, l_130, l_131, l_132, l_177, l_192, l_240, l_312, l_999, l_1000, l_9999, hc]
    rfl
  | succ m ih =>
    intro k i c fu hk hf hci hi
    obtain ⟨fu, rfl⟩ : ∃ g, fu = g + 1 := ⟨fu - 1, by omega⟩
    have step : f_Model_bill_L37 σ b (nI i) (nI w) (nI c, nI k) = if mI σ 578 (30 + 4 * k) = b then (if nI c = nI i then some (.inr (mI σ 578 (30 + 4 * k + 1 + w), σ)) else some (.inl (nI (c + 1), nI (k + 1)))) else some (.inl (nI c, nI (k + 1))) := by
      unfold f_Model_bill_L37
      simp (disch := omega) only [Nat.add_sub_cancel, z_in, z_cl, c_le_t, c_le_f, c_lt_t, c_lt_f, c_eq_t, c_eq_f, c_le0_t, c_le0_f, c_0le, c_lt0, c_0lt, c_eq0_f, c_eq1_f, c_eq0_t, c_eq1_t, c_1le, c_lt1, c_m1, z_sub1, z_sub, nI_1, nI_add, pk_mul, Option.bind_some, if_true, if_false, ite_true, ite_false, l_2, l_3, l_4, l_5, l_6, l_7, l_8, l_9, l_10, l_11, l_12, l_13, l_15, l_16, l_20, l_23, l_24, l_30, l_32, l_40, l_41, l_48, l_50, l_57, l_59, l_60, l_61, l_99, l_100, l_104, l_109, l_112, l_115, l_116, l_119, l_126, l_127, l_128, l_129, l_130, l_131, l_132, l_177, l_192, l_240, l_312, l_999, l_1000, l_9999, hc]
    unfold biS
    by_cases q : mI σ 578 (30 + 4 * k) = b
    · rw [if_pos q] at step
      rw [if_pos q]
      by_cases e : c = i
      · subst e
        rw [if_pos rfl] at step
        rw [Nat.sub_self]
        exact loopF_inr step
      · rw [if_neg (fun q => e (nI_inj6 (by omega) hi q))] at step
        rw [loopF_inl step, show i - c = (i - (c + 1)) + 1 by omega]
        exact ih (k + 1) i (c + 1) fu (by omega) (by omega) (by omega) hi
    · rw [if_neg q] at step
      rw [if_neg q, loopF_inl step]
      exact ih (k + 1) i c fu (by omega) (by omega) hci hi
theorem biS_congr {f g : Rw} {b : Int32} : ∀ m k i, (∀ x, x < 4 * (k + m) → f x = g x) → biS f b m k i = biS g b m k i := by
  intro m
  induction m with
  | zero => intros; rfl
  | succ m ih =>
    intro k i h
    unfold biS
    rw [h (4 * k) (by omega)]
    cases i with
    | zero => rw [ih (k + 1) 0 fun x hx => h x (by omega)]
    | succ i =>
      show (if g (4 * k) = b then biS f b m (k + 1) i else _) = (if g (4 * k) = b then biS g b m (k + 1) i else _)
      rw [ih (k + 1) i fun x hx => h x (by omega), ih (k + 1) (i + 1) fun x hx => h x (by omega)]
theorem sim_bill (x y z : Int32) : Sim (fun σ => pu (f_Game_bill σ x y z) σ) (fun σ => f_Model_bill σ x y z) := Sim.ru fun A hA => by
  have b6 := hA.B6
  have e2 : (2 : Int64) = lN 2 := rfl
  rcases isS_ty (cB (gK A)) x (by omega) with q | ⟨q, b, b1, rfl⟩
  · refine ⟨-1, fun σ hC => ?_, fun σ hM => ⟨sI σ 565 0 0, ?_, SM_0 (v := 0) hM⟩⟩
    · unfold f_Game_bill; rw [Trade_isBuyer hC.k, q]; rfl
    · unfold f_Model_bill; rw [Model_isBuyer (hM.z (v := 0) hA).k, q]; rfl
  · have hc := hA.city (Or.inr (by omega))
    obtain ⟨n, n1, n2, -⟩ := hc.2.2.2.1.1.1
    have cq : ∀ σ, CRel σ A → f_Game_bill σ (nI b) y z = if z < 0 then some (-1) else if z ≤ 2 then (f_State_billRow σ 6 (nI b) y).bind fun q5 => if q5 = -1 then some (-1) else if inb (q5 + 1 + z) 96 then some (mI σ 14 (q5 + 1 + z).toNatClampNeg) else none else some (-1) := fun σ h => by
      unfold f_Game_bill
      rw [Trade_isBuyer h.k, q, Option.bind_some, if_neg (by decide)]
    have mq : ∀ σ, MRel σ A → f_Model_bill σ (nI b) y z = if y < 0 then some (-1, sI σ 565 0 0) else (f_Model_isIn (sI σ 565 0 0) z.toInt64 0 2).bind fun q4 => if q4 = 0 then some (-1, sI σ 565 0 0) else loopF (f_Model_bill_L37 (sI σ 565 0 0) (nI b) y z) FU (0, 0) := fun σ hM => by
      unfold f_Model_bill
      rw [Model_isBuyer (hM.z (v := 0) hA).k, q, Option.bind_some, if_neg (by decide)]
    have hrow : ∀ σ, CRel σ A → y < 0 → f_State_billRow σ 6 (nI b) y = some (-1) := fun σ h hy => by
      have := State_billRow_neg (σ := σ) (o := 6) (b := nI b) (x := y) (y := y) (h.2.2.2.2.2.2.1.1.1.trans n2) n1 hy n 0 0 FU (by omega) (by omega) (by unfold FU; omega)
      rw [show y - nI 0 = y from Int32.sub_zero _] at this
      exact this
    rcases rng0 2 z (by omega) with ⟨r1, r2⟩ | ⟨r1, r2, r3⟩ | ⟨r1, j, j1, rfl⟩
    · refine ⟨-1, fun σ h => ?_, fun σ hM => ⟨sI σ 565 0 0, ?_, SM_0 (v := 0) hM⟩⟩
      · rw [cq σ h, if_pos r1]
      · rw [mq σ hM, l0, e2, Model_isInR (by omega) (by omega), r2]
        split <;> rfl
    · refine ⟨-1, fun σ h => ?_, fun σ hM => ⟨sI σ 565 0 0, ?_, SM_0 (v := 0) hM⟩⟩
      · rw [cq σ h, if_neg r1, if_neg (show ¬ z ≤ (2 : Int32) from Int32.not_le.mpr r2)]
      · rw [mq σ hM, l0, e2, Model_isInR (by omega) (by omega), r3]
        split <;> rfl
    · by_cases hy : y < 0
      · refine ⟨-1, fun σ h => ?_, fun σ hM => ⟨sI σ 565 0 0, ?_, SM_0 (v := 0) hM⟩⟩
        · rw [cq σ h, if_neg (nI_pos (by omega)), if_pos (show nI j ≤ (2 : Int32) from nI_le (b := 2) (by omega) (by omega)), hrow σ h hy]; rfl
        · rw [mq σ hM, if_pos hy]
      · obtain ⟨i, i1, rfl⟩ := nI_of hy
        refine ⟨match biS (fun k => gW A (30 + k)) (nI b) n 0 i with | none => -1 | some q => gW A (30 + 4 * q + 1 + j), fun σ h => ?_, fun σ hM => ⟨sI σ 565 0 0, ?_, SM_0 (v := 0) hM⟩⟩
        · have hr := (h.n hc).1
          have hl : f_State_billRow σ 6 (nI b) (nI i) = _ := State_billRow_loop (σ := σ) (o := 6) (b := nI b) (x := nI i) (h.2.2.2.2.2.2.1.1.1.trans n2) n1 n 0 i FU (by omega) (by unfold FU; omega) i1
          rw [biS_congr (g := fun k => gW A (30 + k)) n 0 i fun x hx => hr.2.2.2.2.1 x (by rw [mny_eq n1 n2]; omega)] at hl
          rw [cq σ h, if_neg (nI_pos (by omega)), if_pos (show nI j ≤ (2 : Int32) from nI_le (b := 2) (by omega) (by omega)), hl, Option.bind_some]
          cases hb : biS (fun k => gW A (30 + k)) (nI b) n 0 i with
          | none => rfl
          | some q =>
            have hq := biS_lt _ _ _ _ hb
            have hw : mI σ 14 (4 * q + 1 + j) = gW A (30 + (4 * q + 1 + j)) := hr.2.2.2.2.1 (4 * q + 1 + j) (by rw [mny_eq n1 n2]; omega)
            simp (disch := omega) only [Nat.add_sub_cancel, z_in, z_cl, c_le_t, c_le_f, c_lt_t, c_lt_f, c_eq_t, c_eq_f, c_le0_t, c_le0_f, c_0le, c_lt0, c_0lt, c_eq0_f, c_eq1_f, c_eq0_t, c_eq1_t, c_1le, c_lt1, c_m1, z_sub1, z_sub, nI_1, nI_add, pk_mul, Option.bind_some, if_true, if_false, ite_true, ite_false, l_2, l_3, l_4, l_5, l_6, l_7, l_8, l_9, l_10, l_11, l_12, l_13, l_15, l_16, l_20, l_23, l_24, l_30, l_32, l_40, l_41, l_48, l_50, l_57, l_59, l_60, l_61, l_99, l_100, l_104, l_109, l_112, l_115, l_116, l_119, l_126, l_127, l_128, l_129, l_130, l_131, l_132, l_177, l_192, l_240, l_312, l_999, l_1000, l_9999, hw]
            rw [show 30 + (4 * q + 1 + j) = 30 + 4 * q + 1 + j by omega]
        · have hz := hM.z (v := 0) hA
          have hl := Model_bill_loop (σ := sI σ 565 0 0) (b := nI b) (w := j) (by rw [hz.w]; exact n2) n1 j1 n 0 i 0 FU (by omega) (by unfold FU; omega) (by omega) i1
          rw [hz.w, Nat.sub_zero] at hl
          rw [mq σ hM, if_neg hy, l0, e2, Model_isInR (by omega) (by omega), r1, Option.bind_some, if_neg (by decide)]
          refine Eq.trans hl ?_
          cases biS (fun k => gW A (30 + k)) (nI b) n 0 i <;> rfl
