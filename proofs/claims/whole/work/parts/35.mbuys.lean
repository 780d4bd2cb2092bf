/-! the reference: bought -/
theorem nI_m1z (k : Nat) : nI (k + 1) + (-1 : Int32) = nI k := pk_m1 k
theorem maS_iff {w : Rw} {b t r : Int32} {k : Nat} : maS w b t r k = true ↔ w (30 + 4 * k) = b ∧ w (30 + 4 * k + 1) = t ∧ w 130 - w (30 + 4 * k + 2) ≤ r := by
  unfold maS
  simp only [Bool.and_eq_true, decide_eq_true_eq, Bool.not_eq_true', decide_eq_false_iff_not, Int32.not_lt, and_assoc]
theorem Model_buys_loop {I : Mem → Prop} {lk : Int32 → Int32 → Int32 → Int32 → Int32 → Int32 → Int32} (hI : LkM I lk) {a b t : Nat} {r : Int32} (ha : a = 578 ∨ a = 579) : ∀ (k n c : Nat) (σ : Mem) (f : Nat), I σ → n ≤ 24 → k ≤ n → mI σ a 126 = nI n → mI σ 570 1 = r → k < f → ∃ σ', loopF (f_Model_buys_L49 a (nI b) (nI t)) f (σ, nI c, nI k - 1) = some (nI (saS (nI b) (nI t) r k n (mI σ a) c).1, σ') ∧ MR I a σ (saS (nI b) (nI t) r k n (mI σ a) c).2 σ' := by
  have hln := ln_row ha
  intro k
  induction k with
  | zero =>
    intro n c σ f hi hn hk hm hr hf
    obtain ⟨f, rfl⟩ : ∃ g, f = g + 1 := ⟨f - 1, by omega⟩
    refine ⟨σ, loopF_inr ?_, MR.refl hi⟩
    unfold f_Model_buys_L49
    simp only [show (nI 0 - 1 < (0 : Int32)) = True from eq_true (by decide), if_true]
    rfl
  | succ k ih =>
    intro n c σ f hi hn hk hm hr hf
    obtain ⟨f, rfl⟩ : ∃ g, f = g + 1 := ⟨f - 1, by omega⟩
    have e1 : (1 : Int32).toNatClampNeg = 1 := by decide
    have e2 : nI k + (-1 : Int32) = nI k - 1 := by rw [Int32.sub_eq_add_neg]
    have step : f_Model_buys_L49 a (nI b) (nI t) (σ, nI c, nI (k + 1) - 1) = if maS (mI σ a) (nI b) (nI t) r k = true then (f_Model_strikes σ a (nI k)).bind fun q => some (.inl (q, nI (c + 1), nI k - 1)) else some (.inl (σ, nI c, nI k - 1)) := by
      unfold f_Model_buys_L49
      simp (disch := omega) only [Nat.add_sub_cancel, z_in, z_cl, c_le_t, c_le_f, c_lt_t, c_lt_f, c_eq_t, c_eq_f, c_le0_t, c_le0_f, c_0le, c_lt0, c_0lt, c_eq0_f, c_eq1_f, c_eq0_t, c_eq1_t, c_1le, c_lt1, c_m1, z_sub1, z_sub, nI_1, nI_add, pk_mul, Option.bind_some, if_true, if_false, ite_true, ite_false, l_2, l_3, l_4, l_5, l_6, l_7, l_8, l_9, l_10, l_11, l_12, l_13, l_15, l_16, l_20, l_23, l_24, l_30, l_32, l_40, l_41, l_48, l_50, l_57, l_59, l_60, l_61, l_99, l_100, l_104, l_109, l_112, l_115, l_116, l_119, l_126, l_127, l_128, l_129, l_130, l_131, l_132, l_177, l_192, l_240, l_312, l_999, l_1000, l_9999, z_inr, nI_pred, hr, e1, e2]
      by_cases hma : maS (mI σ a) (nI b) (nI t) r k = true
      · obtain ⟨q1, q2, q3⟩ := maS_iff.mp hma
        rw [if_pos hma, if_pos q1, if_pos q2, if_pos q3]
      · have hma2 := fun q => hma (maS_iff.mpr q)
        rw [if_neg hma]
        by_cases q1 : mI σ a (30 + 4 * k) = nI b
        · rw [if_pos q1]
          by_cases q2 : mI σ a (30 + 4 * k + 1) = nI t
          · rw [if_pos q2, if_neg (fun q => hma2 ⟨q1, q2, q⟩)]
          · rw [if_neg q2]
        · rw [if_neg q1]
    unfold saS
    by_cases hma : maS (mI σ a) (nI b) (nI t) r k = true
    · obtain ⟨σ2, g1, g2⟩ := Model_strikes hI ha hi hn hm (show k < n by omega)
      rw [if_pos hma, g1, Option.bind_some] at step
      rw [loopF_inl step, if_pos hma]
      obtain ⟨σ3, g3, g4⟩ := ih (n - 1) (c + 1) σ2 f g2.2.2 (by omega) (by omega) (by rw [g2.1]; exact stS_n hn) (by rw [g2.2.1.1 570 (by omega) (by omega) (by omega) (by omega) (by omega)]; exact hr) (by omega)
      rw [g2.1] at g3 g4
      exact ⟨σ3, g3, g2.trans g4⟩
    · rw [if_neg hma] at step
      rw [loopF_inl step, if_neg hma]
      exact ih n c σ f hi hn (by omega) hm hr (by omega)
theorem Model_buys {I : Mem → Prop} {K : Cy} {σ : Mem} {a b t N : Nat} (hI : LkM I (cL K)) (hK : CyOk K) (h : MK σ K) (ha : a = 578 ∨ a = 579) (hi : I σ) (hw : Wf (cT K) (cB K) N (mI σ a)) (hb : b < cB K) (hh : holdS (mI σ a) (cT K) (nI b) = nI t) (ht8 : t < 8) : ∃ σ', f_Model_buys σ a (nI b) = some (nI (buS K (mI σ a) b t).1, σ') ∧ MR I a σ (buS K (mI σ a) b t).2 σ' := by
  have hln := ln_row ha
  have h8 := hK.1
  have h6 := hK.2.1
  obtain ⟨n, n1, n2, -⟩ := hw.1
  have r1 : MR I a σ (bu0 K (mI σ a) b t) (sI (sI (sI σ a (24 + b) (mI σ a (24 + b) - cW K (3 * t))) a (8 + t) 1) a (16 + t) 0) := (((MR.refl hi).up hI ha).up hI ha).up hI ha
  have em : bu0 K (mI σ a) b t 126 = nI n := (bu0_mny (by omega) ht8).trans n2
  obtain ⟨σ2, g1, g2⟩ := Model_buys_loop hI (b := b) (t := t) (r := cR K 1) ha n n 0 _ FU r1.2.2 n1 (Nat.le_refl _) (by rw [r1.1]; exact em) (by rw [row_ne (by omega), row_ne (by omega), row_ne (by omega), h.2.2.1]) (by unfold FU; omega)
  rw [r1.1] at g1 g2
  unfold f_Model_buys
  rw [Model_holds hln h.1 h8, hh]
  simp (disch := omega) only [Nat.add_sub_cancel, z_in, z_cl, c_le_t, c_le_f, c_lt_t, c_lt_f, c_eq_t, c_eq_f, c_le0_t, c_le0_f, c_0le, c_lt0, c_0lt, c_eq0_f, c_eq1_f, c_eq0_t, c_eq1_t, c_1le, c_lt1, c_m1, z_sub1, z_sub, nI_1, nI_add, pk_mul, Option.bind_some, if_true, if_false, ite_true, ite_false, l_2, l_3, l_4, l_5, l_6, l_7, l_8, l_9, l_10, l_11, l_12, l_13, l_15, l_16, l_20, l_23, l_24, l_30, l_32, l_40, l_41, l_48, l_50, l_57, l_59, l_60, l_61, l_99, l_100, l_104, l_109, l_112, l_115, l_116, l_119, l_126, l_127, l_128, l_129, l_130, l_131, l_132, l_177, l_192, l_240, l_312, l_999, l_1000, l_9999, z_inr, h.2.2.2.1, r1.1, em]
  unfold buS
  rw [mny_eq n1 n2]
  by_cases hn0 : n = 0
  · subst hn0
    exact ⟨σ2, g1, r1.trans g2⟩
  · exact ⟨σ2, g1, r1.trans g2⟩
