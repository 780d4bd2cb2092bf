/-! the reference: an hour -/
theorem MR.of {I : Mem → Prop} {a : Nat} {σ σ' : Mem} (ha : a = 578 ∨ a = 579) (h : MX 569 σ σ') (hi : I σ') : MR I a σ (mI σ a) σ' := ⟨h.1 a (by omega) (by omega) (by omega) (by omega) (by omega), h.to, hi⟩
theorem Model_goHolder_J62 {I : Mem → Prop} {K : Cy} {σ : Mem} {a b t N : Nat} (hI : LkM I (cL K)) (hK : CyOk K) (h : MK σ K) (ha : a = 578 ∨ a = 579) (hi : I σ) (hw : Wf (cT K) (cB K) N (mI σ a)) (hb : b < cB K) (hh : holdS (mI σ a) (cT K) (nI b) = nI t) (ht : t < cT K) : ∃ σ', f_Model_goHolder_J62 σ a (nI b) (nI t) = some σ' ∧ MR I a σ (if mI σ a (16 + t) ≤ cV K t / 3 then upd (mI σ a) (16 + t) (mI σ a (16 + t) + 1) else baS K (mI σ a) b t) σ' := by
  have hln := ln_row ha
  have h8 := hK.1
  have h6 := hK.2.1
  unfold f_Model_goHolder_J62
  rw [Model_weightOf h ht h8]
  have e1 : ((16 : Int32) + nI t).toNatClampNeg = 16 + t := by simp (disch := omega) only [Nat.add_sub_cancel, z_in, z_cl, c_le_t, c_le_f, c_lt_t, c_lt_f, c_eq_t, c_eq_f, c_le0_t, c_le0_f, c_0le, c_lt0, c_0lt, c_eq0_f, c_eq1_f, c_eq0_t, c_eq1_t, c_1le, c_lt1, c_m1, z_sub1, z_sub, nI_1, nI_add, pk_mul, Option.bind_some, if_true, if_false, ite_true, ite_false, l_2, l_3, l_4, l_5, l_6, l_7, l_8, l_9, l_10, l_11, l_12, l_13, l_15, l_16, l_20, l_23, l_24, l_30, l_32, l_40, l_41, l_48, l_50, l_57, l_59, l_60, l_61, l_99, l_100, l_104, l_109, l_112, l_115, l_116, l_119, l_126, l_127, l_128, l_129, l_130, l_131, l_132, l_177, l_192, l_240, l_312, l_999, l_1000, l_9999]
  have e2 : inb ((16 : Int32) + nI t) (ln a) = true := by simp (disch := omega) only [Nat.add_sub_cancel, z_in, z_cl, c_le_t, c_le_f, c_lt_t, c_lt_f, c_eq_t, c_eq_f, c_le0_t, c_le0_f, c_0le, c_lt0, c_0lt, c_eq0_f, c_eq1_f, c_eq0_t, c_eq1_t, c_1le, c_lt1, c_m1, z_sub1, z_sub, nI_1, nI_add, pk_mul, Option.bind_some, if_true, if_false, ite_true, ite_false, l_2, l_3, l_4, l_5, l_6, l_7, l_8, l_9, l_10, l_11, l_12, l_13, l_15, l_16, l_20, l_23, l_24, l_30, l_32, l_40, l_41, l_48, l_50, l_57, l_59, l_60, l_61, l_99, l_100, l_104, l_109, l_112, l_115, l_116, l_119, l_126, l_127, l_128, l_129, l_130, l_131, l_132, l_177, l_192, l_240, l_312, l_999, l_1000, l_9999, z_inr]
  simp only [e1, e2, if_true, Option.bind_some]
  by_cases h9 : mI σ a (16 + t) ≤ cV K t / 3
  · rw [if_pos h9, if_pos h9]
    exact ⟨_, rfl, (MR.refl hi).up hI ha⟩
  · rw [if_neg h9, if_neg h9]
    obtain ⟨σ2, g1, g2⟩ := Model_goesBack hI hK h ha hi hw hb hh (by omega)
    rw [g1]
    exact ⟨σ2, rfl, g2⟩
theorem Model_goHolder {I : Mem → Prop} {K : Cy} {σ : Mem} {a b N : Nat} (hI : LkM I (cL K)) (hK : CyOk K) (h : MK σ K) (ha : a = 578 ∨ a = 579) (hi : I σ) (hw : Wf (cT K) (cB K) N (mI σ a)) (hN : N < 2 ^ 30) (hb : b < cB K) : ∃ σ', f_Model_goHolder σ a (nI b) = some σ' ∧ MR I a σ (hoS K (mI σ a) b) σ' := by
  have hln := ln_row ha
  have h8 := hK.1
  have h6 := hK.2.1
  unfold f_Model_goHolder hoS
  rw [Model_holds hln h.1 h8]
  rcases holdS_ty (mI σ a) (cT K) (nI b) with q | ⟨t, ht, hh⟩
  · rw [q]
    exact ⟨σ, rfl, MR.refl hi⟩
  · rw [hh, nI_clamp (by omega), if_neg (nI_ne_m1 (by omega))]
    obtain ⟨σ1, g1, g2, g3⟩ := Model_likingOf hI hK h ha hi hw hN hb ht
    have r1 : MR I a σ (mI σ a) σ1 := MR.of ha g2 g3
    have h1 := h.fr ha r1.2.1
    obtain ⟨σ2, g4, g5⟩ := Model_goHolder_J62 hI hK h1 ha g3 (by rw [r1.1]; exact hw) hb (by rw [r1.1]; exact hh) ht
    rw [r1.1] at g5
    simp (disch := omega) only [Nat.add_sub_cancel, z_in, z_cl, c_le_t, c_le_f, c_lt_t, c_lt_f, c_eq_t, c_eq_f, c_le0_t, c_le0_f, c_0le, c_lt0, c_0lt, c_eq0_f, c_eq1_f, c_eq0_t, c_eq1_t, c_1le, c_lt1, c_m1, z_sub1, z_sub, nI_1, nI_add, pk_mul, Option.bind_some, if_true, if_false, ite_true, ite_false, l_2, l_3, l_4, l_5, l_6, l_7, l_8, l_9, l_10, l_11, l_12, l_13, l_15, l_16, l_20, l_23, l_24, l_30, l_32, l_40, l_41, l_48, l_50, l_57, l_59, l_60, l_61, l_99, l_100, l_104, l_109, l_112, l_115, l_116, l_119, l_126, l_127, l_128, l_129, l_130, l_131, l_132, l_177, l_192, l_240, l_312, l_999, l_1000, l_9999, z_inr, g1, h1.2.2.2.1, r1.1, g4]
    by_cases q1 : lkS K (mI σ a) b t < cW K (3 * t)
    · rw [if_pos q1, if_pos (Or.inl q1)]
      exact ⟨σ2, rfl, r1.trans g5⟩
    · rw [if_neg q1]
      by_cases q2 : mI σ a (24 + b) < cW K (3 * t)
      · rw [if_pos q2, if_pos (Or.inr q2)]
        exact ⟨σ2, rfl, r1.trans g5⟩
      · rw [if_neg q2, if_neg (fun q => q.elim q1 q2)]
        obtain ⟨σ3, g6, g7⟩ := Model_buys hI hK h1 ha g3 (by rw [r1.1]; exact hw) hb (by rw [r1.1]; exact hh) (by omega)
        rw [r1.1] at g7
        rw [g6]
        exact ⟨σ3, rfl, r1.trans g7⟩
theorem Model_isFree {σ : Mem} {a t T : Nat} (ha : a = 578 ∨ a = 579) (hT : mI σ 565 26 = nI T) (h8 : T ≤ 8) (ht : t < T) : f_Model_isFree σ a (nI t) = some (if mI σ a t = -1 then 1 else 0) := by
  have hln := ln_row ha
  unfold f_Model_isFree f_Model_isThing
  simp (disch := omega) only [Nat.add_sub_cancel, z_in, z_cl, c_le_t, c_le_f, c_lt_t, c_lt_f, c_eq_t, c_eq_f, c_le0_t, c_le0_f, c_0le, c_lt0, c_0lt, c_eq0_f, c_eq1_f, c_eq0_t, c_eq1_t, c_1le, c_lt1, c_m1, z_sub1, z_sub, nI_1, nI_add, pk_mul, Option.bind_some, if_true, if_false, ite_true, ite_false, l_2, l_3, l_4, l_5, l_6, l_7, l_8, l_9, l_10, l_11, l_12, l_13, l_15, l_16, l_20, l_23, l_24, l_30, l_32, l_40, l_41, l_48, l_50, l_57, l_59, l_60, l_61, l_99, l_100, l_104, l_109, l_112, l_115, l_116, l_119, l_126, l_127, l_128, l_129, l_130, l_131, l_132, l_177, l_192, l_240, l_312, l_999, l_1000, l_9999, z_inr, hT]
  rw [if_neg (by decide)]
  by_cases h : mI σ a t = -1
  · rw [if_pos h, if_pos h]
  · rw [if_neg h, if_neg h]
theorem Model_goSeeker {I : Mem → Prop} {K : Cy} {σ : Mem} {a b N : Nat} (hI : LkM I (cL K)) (hK : CyOk K) (h : MK σ K) (ha : a = 578 ∨ a = 579) (hi : I σ) (hw : Wf (cT K) (cB K) N (mI σ a)) (hN : N < 2 ^ 30) (hb : b < cB K) : ∃ σ', f_Model_goSeeker σ a (nI b) = some σ' ∧ MR I a σ (seS K (mI σ a) b) σ' := by
  have hln := ln_row ha
  have h8 := hK.1
  have h6 := hK.2.1
  obtain ⟨n, n1, n2, -⟩ := hw.1
  have hmn := mny_eq n1 n2
  unfold f_Model_goSeeker seS
  rw [Model_holds hln h.1 h8]
  by_cases q : holdS (mI σ a) (cT K) (nI b) = -1
  · have hd := Model_dueOf (b := nI b) hln n2 n1
    rw [q, Option.bind_some, if_pos rfl, hd, hmn]
    have e6 : (6 : Int32) * cF K (4 * b + 2) = 6 * cF K (4 * b + 2) := rfl
    have e2 : ((4 : Int32) * nI b + 2).toNatClampNeg = 4 * b + 2 := by simp (disch := omega) only [Nat.add_sub_cancel, z_in, z_cl, c_le_t, c_le_f, c_lt_t, c_lt_f, c_eq_t, c_eq_f, c_le0_t, c_le0_f, c_0le, c_lt0, c_0lt, c_eq0_f, c_eq1_f, c_eq0_t, c_eq1_t, c_1le, c_lt1, c_m1, z_sub1, z_sub, nI_1, nI_add, pk_mul, Option.bind_some, if_true, if_false, ite_true, ite_false, l_2, l_3, l_4, l_5, l_6, l_7, l_8, l_9, l_10, l_11, l_12, l_13, l_15, l_16, l_20, l_23, l_24, l_30, l_32, l_40, l_41, l_48, l_50, l_57, l_59, l_60, l_61, l_99, l_100, l_104, l_109, l_112, l_115, l_116, l_119, l_126, l_127, l_128, l_129, l_130, l_131, l_132, l_177, l_192, l_240, l_312, l_999, l_1000, l_9999]
    have e1 : inb ((4 : Int32) * nI b + 2) 24 = true := by simp (disch := omega) only [Nat.add_sub_cancel, z_in, z_cl, c_le_t, c_le_f, c_lt_t, c_lt_f, c_eq_t, c_eq_f, c_le0_t, c_le0_f, c_0le, c_lt0, c_0lt, c_eq0_f, c_eq1_f, c_eq0_t, c_eq1_t, c_1le, c_lt1, c_m1, z_sub1, z_sub, nI_1, nI_add, pk_mul, Option.bind_some, if_true, if_false, ite_true, ite_false, l_2, l_3, l_4, l_5, l_6, l_7, l_8, l_9, l_10, l_11, l_12, l_13, l_15, l_16, l_20, l_23, l_24, l_30, l_32, l_40, l_41, l_48, l_50, l_57, l_59, l_60, l_61, l_99, l_100, l_104, l_109, l_112, l_115, l_116, l_119, l_126, l_127, l_128, l_129, l_130, l_131, l_132, l_177, l_192, l_240, l_312, l_999, l_1000, l_9999]
    simp only [Option.bind_some, e1, if_true, e2, h.2.2.2.2.1]
    by_cases q2 : dueS (fun k => mI σ a (30 + k)) (nI b) n ≤ 6 * cF K (4 * b + 2)
    · rw [if_pos q2]
      obtain ⟨⟨τ, z⟩, g1, g2, g3⟩ := loopF_go (step := f_Model_goSeeker_L40 a (nI b)) (a := (σ, (-1 : Int32), (0 : Int32), (0 : Int32))) (fun i s => s.2.1 = (faS K (mI σ a) b i).1 ∧ s.2.2.1 = (faS K (mI σ a) b i).2 ∧ s.2.2.2 = nI i ∧ MR I a σ (mI σ a) s.1) (fun r => r.2 = (faS K (mI σ a) b (cT K)).1 ∧ MR I a σ (mI σ a) r.1) (cT K) ⟨rfl, rfl, rfl, MR.refl hi⟩ (by omega) (by
        rintro i ⟨τ, z3, z4, z5⟩ hiT ⟨e3, e4, e5, hr⟩
        simp only at e3 e4 e5 hr
        have h1 := h.fr ha hr.2.1
        unfold f_Model_goSeeker_L40
        subst e5
        by_cases hlt : i < cT K
        · have hf := Model_isFree ha h1.1 h8 hlt
          have hhb := Model_hasBill (σ := τ) (a := a) (b := nI b) (t := nI i) (n := n) hln (by rw [hr.1]; exact n2) n1
          rw [hr.1] at hf hhb
          obtain ⟨σ1, k1, k2, k3⟩ := Model_likingOf hI hK h1 ha hr.2.2 (by rw [hr.1]; exact hw) hN hb hlt
          rw [hr.1] at k1
          have r1 := hr.trans (by have := MR.of ha k2 k3; rw [hr.1] at this; exact this)
          simp (disch := omega) only [Nat.add_sub_cancel, z_in, z_cl, c_le_t, c_le_f, c_lt_t, c_lt_f, c_eq_t, c_eq_f, c_le0_t, c_le0_f, c_0le, c_lt0, c_0lt, c_eq0_f, c_eq1_f, c_eq0_t, c_eq1_t, c_1le, c_lt1, c_m1, z_sub1, z_sub, nI_1, nI_add, pk_mul, Option.bind_some, if_true, if_false, ite_true, ite_false, l_2, l_3, l_4, l_5, l_6, l_7, l_8, l_9, l_10, l_11, l_12, l_13, l_15, l_16, l_20, l_23, l_24, l_30, l_32, l_40, l_41, l_48, l_50, l_57, l_59, l_60, l_61, l_99, l_100, l_104, l_109, l_112, l_115, l_116, l_119, l_126, l_127, l_128, l_129, l_130, l_131, l_132, l_177, l_192, l_240, l_312, l_999, l_1000, l_9999, h1.1, hf, hhb, k1]
          have ef : faS K (mI σ a) b (i + 1) = if mI σ a i = -1 ∧ hasS (fun k => mI σ a (30 + k)) (nI b) (nI i) n = 0 ∧ (faS K (mI σ a) b i).2 < lkS K (mI σ a) b i then (nI i, lkS K (mI σ a) b i) else faS K (mI σ a) b i := by
            show (if _ then _ else _) = _
            rw [hmn]
          by_cases q3 : mI σ a i = -1
          · rw [if_pos q3, if_neg (by decide)]
            by_cases q4 : hasS (fun k => mI σ a (30 + k)) (nI b) (nI i) n = 0
            · rw [if_pos q4]
              by_cases q5 : z4 < lkS K (mI σ a) b i
              · rw [if_pos q5]
                rw [e4] at q5
                rw [if_pos ⟨q3, q4, q5⟩] at ef
                exact exL ⟨hlt, by rw [ef], by rw [ef], rfl, r1⟩
              · rw [if_neg q5]
                rw [e4] at q5
                rw [if_neg (fun q => q5 q.2.2)] at ef
                exact exL ⟨hlt, by rw [ef]; exact e3, by rw [ef]; exact e4, rfl, r1⟩
            · rw [if_neg q4]
              rw [if_neg (fun q => q4 q.2.1)] at ef
              exact exL ⟨hlt, by rw [ef]; exact e3, by rw [ef]; exact e4, rfl, hr⟩
          · rw [if_neg q3, if_pos rfl]
            rw [if_neg (fun q => q3 q.1)] at ef
            exact exL ⟨hlt, by rw [ef]; exact e3, by rw [ef]; exact e4, rfl, hr⟩
        · have : i = cT K := by omega
          subst this
          simp (disch := omega) only [Nat.add_sub_cancel, z_in, z_cl, c_le_t, c_le_f, c_lt_t, c_lt_f, c_eq_t, c_eq_f, c_le0_t, c_le0_f, c_0le, c_lt0, c_0lt, c_eq0_f, c_eq1_f, c_eq0_t, c_eq1_t, c_1le, c_lt1, c_m1, z_sub1, z_sub, nI_1, nI_add, pk_mul, Option.bind_some, if_true, if_false, ite_true, ite_false, l_2, l_3, l_4, l_5, l_6, l_7, l_8, l_9, l_10, l_11, l_12, l_13, l_15, l_16, l_20, l_23, l_24, l_30, l_32, l_40, l_41, l_48, l_50, l_57, l_59, l_60, l_61, l_99, l_100, l_104, l_109, l_112, l_115, l_116, l_119, l_126, l_127, l_128, l_129, l_130, l_131, l_132, l_177, l_192, l_240, l_312, l_999, l_1000, l_9999, h1.1]
          exact exR ⟨e3, hr⟩)
      simp only at g2 g3
      rw [g1, Option.bind_some]
      simp only
      rw [g2]
      rcases faS_ty K (mI σ a) b (cT K) h8 with q3 | ⟨t, q3, q4, q5⟩
      · rw [if_pos q3, if_neg (fun p => p.2.2 q3)]
        exact ⟨_, rfl, g3⟩
      · have q6 : (faS K (mI σ a) b (cT K)).1 ≠ -1 := by rw [q4]; exact nI_ne_m1 (by omega)
        rw [if_neg q6, if_pos (show True ∧ dueS (fun k => mI σ a (30 + k)) (nI b) n ≤ 6 * cF K (4 * b + 2) ∧ (faS K (mI σ a) b (cT K)).1 ≠ -1 from ⟨trivial, q2, q6⟩), q4]
        simp (disch := omega) only [Nat.add_sub_cancel, z_in, z_cl, c_le_t, c_le_f, c_lt_t, c_lt_f, c_eq_t, c_eq_f, c_le0_t, c_le0_f, c_0le, c_lt0, c_0lt, c_eq0_f, c_eq1_f, c_eq0_t, c_eq1_t, c_1le, c_lt1, c_m1, z_sub1, z_sub, nI_1, nI_add, pk_mul, Option.bind_some, if_true, if_false, ite_true, ite_false, l_2, l_3, l_4, l_5, l_6, l_7, l_8, l_9, l_10, l_11, l_12, l_13, l_15, l_16, l_20, l_23, l_24, l_30, l_32, l_40, l_41, l_48, l_50, l_57, l_59, l_60, l_61, l_99, l_100, l_104, l_109, l_112, l_115, l_116, l_119, l_126, l_127, l_128, l_129, l_130, l_131, l_132, l_177, l_192, l_240, l_312, l_999, l_1000, l_9999, z_inr]
        exact ⟨_, rfl, (g3.up hI ha).up hI ha⟩
    · rw [if_neg q2, if_neg (fun p => q2 p.2.1)]
      exact ⟨σ, rfl, MR.refl hi⟩
  · rw [Option.bind_some, if_neg q, if_neg (fun p => q p.1)]
    exact ⟨σ, rfl, MR.refl hi⟩
theorem Model_loopB {I : Mem → Prop} {K : Cy} {σ : Mem} {a N : Nat} {f : Mem × Int32 → Option ((Mem × Int32) ⊕ Mem)} {g : Rw → Nat → Rw} (hK : CyOk K) (h : MK σ K) (ha : a = 578 ∨ a = 579) (hi : I σ) (hw : Wf (cT K) (cB K) N (mI σ a)) (hg : ∀ b v, b < cB K → Wf (cT K) (cB K) N v → Wf (cT K) (cB K) N (g v b)) (hf : ∀ τ b, b < cB K → MK τ K → I τ → Wf (cT K) (cB K) N (mI τ a) → ∃ τ', f (τ, nI b) = some (.inl (τ', nI (b + 1))) ∧ MR I a τ (g (mI τ a) b) τ') (he : ∀ τ, MK τ K → f (τ, nI (cB K)) = some (.inr τ)) : ∃ σ', loopF f FU (σ, (0 : Int32)) = some σ' ∧ MR I a σ (itS g (mI σ a) (cB K)) σ' := by
  have h6 := hK.2.1
  refine loopF_go (fun i (s : Mem × Int32) => s.2 = nI i ∧ MR I a σ (itS g (mI σ a) i) s.1) _ (cB K) ⟨rfl, MR.refl hi⟩ (by omega) ?_
  rintro i ⟨τ, z⟩ hiB ⟨hz, hr⟩
  simp only at hz hr
  subst hz
  have h1 := h.fr ha hr.2.1
  by_cases hlt : i < cB K
  · obtain ⟨τ', g1, g2⟩ := hf τ i hlt h1 hr.2.2 (by rw [hr.1]; exact itS_wf hw i fun b v hb => hg b v (by omega))
    rw [hr.1] at g2
    rw [g1]
    exact exL ⟨hlt, rfl, hr.trans g2⟩
  · have : i = cB K := by omega
    subst this
    rw [he τ h1]
    exact exR hr
theorem Model_paysAll {I : Mem → Prop} {K : Cy} {σ : Mem} {a N : Nat} (hI : LkM I (cL K)) (hK : CyOk K) (h : MK σ K) (ha : a = 578 ∨ a = 579) (hi : I σ) (hw : Wf (cT K) (cB K) N (mI σ a)) : ∃ σ', f_Model_paysAll σ a = some σ' ∧ MR I a σ (paS K (mI σ a)) σ' := by
  have hln := ln_row ha
  have h8 := hK.1
  have h6 := hK.2.1
  obtain ⟨σ1, g1, g2⟩ := Model_loopB (f := f_Model_paysAll_L2 a) (g := p1S) hK h ha hi hw (fun b v hb hv => p1S_wf h8 h6 hv hb) (by
    intro τ b hb h1 i1 w1
    obtain ⟨n, n1, n2, -⟩ := w1.1
    have hd := Model_dueOf (b := nI b) hln n2 n1
    have e129 : (129 : Int32).toNatClampNeg = 129 := by decide
    have e1 : ((24 : Int32) + nI b).toNatClampNeg = 24 + b := by simp (disch := omega) only [Nat.add_sub_cancel, z_in, z_cl, c_le_t, c_le_f, c_lt_t, c_lt_f, c_eq_t, c_eq_f, c_le0_t, c_le0_f, c_0le, c_lt0, c_0lt, c_eq0_f, c_eq1_f, c_eq0_t, c_eq1_t, c_1le, c_lt1, c_m1, z_sub1, z_sub, nI_1, nI_add, pk_mul, Option.bind_some, if_true, if_false, ite_true, ite_false, l_2, l_3, l_4, l_5, l_6, l_7, l_8, l_9, l_10, l_11, l_12, l_13, l_15, l_16, l_20, l_23, l_24, l_30, l_32, l_40, l_41, l_48, l_50, l_57, l_59, l_60, l_61, l_99, l_100, l_104, l_109, l_112, l_115, l_116, l_119, l_126, l_127, l_128, l_129, l_130, l_131, l_132, l_177, l_192, l_240, l_312, l_999, l_1000, l_9999]
    have e2 : inb ((24 : Int32) + nI b) (ln a) = true := by simp (disch := omega) only [Nat.add_sub_cancel, z_in, z_cl, c_le_t, c_le_f, c_lt_t, c_lt_f, c_eq_t, c_eq_f, c_le0_t, c_le0_f, c_0le, c_lt0, c_0lt, c_eq0_f, c_eq1_f, c_eq0_t, c_eq1_t, c_1le, c_lt1, c_m1, z_sub1, z_sub, nI_1, nI_add, pk_mul, Option.bind_some, if_true, if_false, ite_true, ite_false, l_2, l_3, l_4, l_5, l_6, l_7, l_8, l_9, l_10, l_11, l_12, l_13, l_15, l_16, l_20, l_23, l_24, l_30, l_32, l_40, l_41, l_48, l_50, l_57, l_59, l_60, l_61, l_99, l_100, l_104, l_109, l_112, l_115, l_116, l_119, l_126, l_127, l_128, l_129, l_130, l_131, l_132, l_177, l_192, l_240, l_312, l_999, l_1000, l_9999, z_inr]
    have e3 : inb (129 : Int32) (ln a) = true := inbL (n := 131) (by decide) hln
    unfold f_Model_paysAll_L2
    simp only [h1.2.1, c_le_f hb (show cB K < 2 ^ 31 by omega), if_false, e1, e2, e3, e129, if_true, hd, Option.bind_some, nI_1, row_sI, upd_ne (show 129 ≠ 24 + b by omega)]
    refine ⟨_, rfl, ?_⟩
    unfold p1S
    rw [mny_eq n1 n2]
    exact ((MR.refl i1).up hI ha).up hI ha) (by
    intro τ h1
    unfold f_Model_paysAll_L2
    simp only [h1.2.1, c_le_t (Nat.le_refl (cB K)) (show cB K < 2 ^ 31 by omega), if_true])
  have w1 := itS_wf (f := p1S) hw (cB K) fun b v hb hv => p1S_wf h8 h6 hv hb
  have r2 : MR I a σ (upd (itS p1S (mI σ a) (cB K)) 126 0) (sI σ1 a 126 0) := g2.up hI ha
  have w2 : Wf (cT K) (cB K) N (upd (itS p1S (mI σ a) (cB K)) 126 0) := by
    obtain ⟨q1, q2, q3, q4, q5⟩ := w1
    exact ⟨⟨0, by omega, upd_self _ _ _, fun k hk => by omega⟩, q2.congr h8 fun i h => upd_ne (by omega), q3.congr h6 fun i h6 h7 => upd_ne (by omega), q4.congr (upd_ne (by omega)), q5.congr (upd_ne (by omega))⟩
  obtain ⟨σ2, g3, g4⟩ := Model_loopB (f := f_Model_paysAll_L66 a) (g := p2S K) hK (h.fr ha r2.2.1) ha r2.2.2 (by rw [r2.1]; exact w2) (fun b v hb hv => p2S_wf hK h8 h6 hv hb) (by
    intro τ b hb h1 i1 w1
    have e1 : ((24 : Int32) + nI b).toNatClampNeg = 24 + b := by simp (disch := omega) only [Nat.add_sub_cancel, z_in, z_cl, c_le_t, c_le_f, c_lt_t, c_lt_f, c_eq_t, c_eq_f, c_le0_t, c_le0_f, c_0le, c_lt0, c_0lt, c_eq0_f, c_eq1_f, c_eq0_t, c_eq1_t, c_1le, c_lt1, c_m1, z_sub1, z_sub, nI_1, nI_add, pk_mul, Option.bind_some, if_true, if_false, ite_true, ite_false, l_2, l_3, l_4, l_5, l_6, l_7, l_8, l_9, l_10, l_11, l_12, l_13, l_15, l_16, l_20, l_23, l_24, l_30, l_32, l_40, l_41, l_48, l_50, l_57, l_59, l_60, l_61, l_99, l_100, l_104, l_109, l_112, l_115, l_116, l_119, l_126, l_127, l_128, l_129, l_130, l_131, l_132, l_177, l_192, l_240, l_312, l_999, l_1000, l_9999]
    have e2 : inb ((24 : Int32) + nI b) (ln a) = true := by simp (disch := omega) only [Nat.add_sub_cancel, z_in, z_cl, c_le_t, c_le_f, c_lt_t, c_lt_f, c_eq_t, c_eq_f, c_le0_t, c_le0_f, c_0le, c_lt0, c_0lt, c_eq0_f, c_eq1_f, c_eq0_t, c_eq1_t, c_1le, c_lt1, c_m1, z_sub1, z_sub, nI_1, nI_add, pk_mul, Option.bind_some, if_true, if_false, ite_true, ite_false, l_2, l_3, l_4, l_5, l_6, l_7, l_8, l_9, l_10, l_11, l_12, l_13, l_15, l_16, l_20, l_23, l_24, l_30, l_32, l_40, l_41, l_48, l_50, l_57, l_59, l_60, l_61, l_99, l_100, l_104, l_109, l_112, l_115, l_116, l_119, l_126, l_127, l_128, l_129, l_130, l_131, l_132, l_177, l_192, l_240, l_312, l_999, l_1000, l_9999, z_inr]
    have e3 : (3 : Int32).toNatClampNeg = 3 := by decide
    unfold f_Model_paysAll_L66
    simp only [h1.2.1, c_le_f hb (show cB K < 2 ^ 31 by omega), if_false, e1, e2, e3, if_true, nI_1, h1.2.2.1]
    exact ⟨_, rfl, (MR.refl i1).up hI ha⟩) (by
    intro τ h1
    unfold f_Model_paysAll_L66
    simp only [h1.2.1, c_le_t (Nat.le_refl (cB K)) (show cB K < 2 ^ 31 by omega), if_true])
  rw [r2.1] at g4
  unfold f_Model_paysAll
  rw [g1, Option.bind_some, if_pos (inbL (n := 131) (by decide) hln), cl126, g3]
  exact ⟨σ2, rfl, r2.trans g4⟩
theorem Model_passes {I : Mem → Prop} {K : Cy} {σ : Mem} {a N : Nat} (hI : LkM I (cL K)) (hK : CyOk K) (h : MK σ K) (ha : a = 578 ∨ a = 579) (hi : I σ) (hw : Wf (cT K) (cB K) N (mI σ a)) (hN : N < 2 ^ 30) : ∃ σ', f_Model_passes σ a = some σ' ∧ MR I a σ (paH K (mI σ a)) σ' := by
  have hln := ln_row ha
  have h8 := hK.1
  have h6 := hK.2.1
  obtain ⟨σ1, g1, g2⟩ := Model_loopB (f := f_Model_passes_L2 a) (g := hoS K) hK h ha hi hw (fun b v hb hv => hoS_wf hK rfl h6 hv hb) (by
    intro τ b hb h1 i1 w1
    obtain ⟨σ1, g1, g2⟩ := Model_goHolder hI hK h1 ha i1 w1 hN hb
    unfold f_Model_passes_L2
    simp only [h1.2.1, c_le_f hb (show cB K < 2 ^ 31 by omega), if_false, g1, Option.bind_some, nI_1]
    exact ⟨σ1, rfl, g2⟩) (by
    intro τ h1
    unfold f_Model_passes_L2
    simp only [h1.2.1, c_le_t (Nat.le_refl (cB K)) (show cB K < 2 ^ 31 by omega), if_true])
  have w1 := itS_wf (f := hoS K) hw (cB K) fun b v hb hv => hoS_wf hK rfl h6 hv hb
  obtain ⟨σ2, g3, g4⟩ := Model_loopB (f := f_Model_passes_L24 a) (g := seS K) hK (h.fr ha g2.2.1) ha g2.2.2 (by rw [g2.1]; exact w1) (fun b v hb hv => seS_wf hK rfl h6 hv hb) (by
    intro τ b hb h1 i1 w1
    obtain ⟨σ1, g1, g2⟩ := Model_goSeeker hI hK h1 ha i1 w1 hN hb
    unfold f_Model_passes_L24
    simp only [h1.2.1, c_le_f hb (show cB K < 2 ^ 31 by omega), if_false, g1, Option.bind_some, nI_1]
    exact ⟨σ1, rfl, g2⟩) (by
    intro τ h1
    unfold f_Model_passes_L24
    simp only [h1.2.1, c_le_t (Nat.le_refl (cB K)) (show cB K < 2 ^ 31 by omega), if_true])
  rw [g2.1] at g4
  have r2 := g2.trans g4
  have r3 : MR I a σ (h2S K (mI σ a)) (sI σ2 a 130 (mI σ2 a 130 + 1)) := by
    have := r2.up hI (k := 130) (v := mI σ2 a 130 + 1) ha
    rw [r2.1] at this ⊢
    exact this
  have w3 := h2S_wf hK rfl rfl hw
  have e130 : (130 : Int32).toNatClampNeg = 130 := by decide
  have e2 : (2 : Int32).toNatClampNeg = 2 := by decide
  obtain ⟨y, y1, y2, y3⟩ := hK.2.2.2.2.2.2.1
  have h3 := h.fr ha r3.2.1
  unfold f_Model_passes
  rw [g1, Option.bind_some, g3, Option.bind_some, if_pos (inbL (n := 131) (by decide) hln), e130, e2, r3.1, h3.2.2.1, if_neg (by rw [y3]; exact nI_ne0 (by omega) (by omega))]
  unfold paH
  by_cases q : h2S K (mI σ a) 130 - h2S K (mI σ a) 130 / cR K 2 * cR K 2 = 0
  · rw [if_pos q, if_pos q]
    obtain ⟨σ4, g5, g6⟩ := Model_paysAll hI hK h3 ha r3.2.2 (by rw [r3.1]; exact w3)
    rw [r3.1] at g6
    rw [g5]
    exact ⟨σ4, rfl, r3.trans g6⟩
  · rw [if_neg q, if_neg q]
    exact ⟨_, rfl, r3⟩
