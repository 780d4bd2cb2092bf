/-! selling, whole -/
theorem Model_selling_loop {A : Gh} {σ : Mem} {t : Nat} {x2 : Int32} (hA : gOk A) (hM : MRel σ A) (hc : hasC A) (ht : t < cT (gK A)) : ∃ σ', loopF (f_Model_selling_L52 (nI t) x2) FU (sI σ 565 41 (nI t), (-1 : Int32), (41 : Int32), (0 : Int32)) = some (σ', (slS (gK A) (gW A) t 10).1, nI ((slS (gK A) (gW A) t 10).2.2 + 1)) ∧ ME A σ σ' ∧ mI σ' 565 39 = -1 := by
  have t8 := hA.T8
  have m := hM.2.2.2.2.2.1
  have me0 : ME A σ (sI σ 565 41 (nI t)) := (ME.refl hM).set hA (by omega)
  obtain ⟨⟨σ', r⟩, k1, k2, k3, k4⟩ := loopF_go (step := f_Model_selling_L52 (nI t) x2) (a := (sI σ 565 41 (nI t), (-1 : Int32), (41 : Int32), (0 : Int32))) (fun i s => s.2.2.2 = nI i ∧ s.2.1 = (slS (gK A) (gW A) t i).1 ∧ s.2.2.1 = nI ((slS (gK A) (gW A) t i).2.2 + 1) ∧ ME A σ s.1 ∧ mI s.1 565 39 = -1 ∧ mI s.1 565 41 = nI t) (fun r => r.2 = ((slS (gK A) (gW A) t 10).1, nI ((slS (gK A) (gW A) t 10).2.2 + 1)) ∧ ME A σ r.1 ∧ mI r.1 565 39 = -1) 10 ⟨rfl, rfl, rfl, me0, by rw [row_sI, upd_ne (by omega)]; exact m.1, by rw [row_sI, upd_self]⟩ (by omega) (by
    rintro i ⟨τ, z3, z4, z5⟩ hi9 ⟨e5, e3, e4, hme, h39, h41⟩
    simp only at e5 e3 e4 hme h39 h41
    subst e5; subst e3; subst e4
    unfold f_Model_selling_L52
    by_cases hlt : i < 10
    · obtain ⟨m40, -⟩ := slS_ok (gK A) (gW A) t i (by omega)
      have me1 : ME A σ (sI τ 565 42 (nI i)) := hme.set hA (by omega)
      have e39 : mI (sI τ 565 42 (nI i)) 565 39 = -1 := by rw [row_sI, upd_ne (by omega)]; exact h39
      have e41 : mI (sI τ 565 42 (nI i)) 565 41 = nI t := by rw [row_sI, upd_ne (by omega)]; exact h41
      obtain ⟨σ1, u, g1, g2⟩ := Model_selling_in (x2 := x2) (b0 := (slS (gK A) (gW A) t i).1) (m := (slS (gK A) (gW A) t i).2.2) hA hc (me1.kV hA hM e39 e41 (by rw [row_sI, upd_self]) (by omega)) me1.2.2.2.2 (by rw [me1.1 578 (by omega) (by omega) (by omega) (by omega) (by omega) (by omega) (by omega)]; exact hM.w) ht (show i ≤ 9 by omega) m40
      have e : slS (gK A) (gW A) t (i + 1) = if hsS (kV (gK A) t i) (gW A) t (slS (gK A) (gW A) t i).2.2 = -1 then slS (gK A) (gW A) t i else (nI i, hsS (kV (gK A) t i) (gW A) t (slS (gK A) (gW A) t i).2.2, (hsS (kV (gK A) t i) (gW A) t (slS (gK A) (gW A) t i).2.2).toNatClampNeg - 1) := rfl
      have me2 := me1.mx g2
      have f39 : mI σ1 565 39 = -1 := (g2.2.1.2.2.2 39 (by omega)).trans e39
      have f41 : mI σ1 565 41 = nI t := (g2.2.1.2.2.2 41 (by omega)).trans e41
      have bb : ∀ (x : Option Mem) (f : Mem → Option (Mem × Int32 × Int32)) (g : Mem × Int32 × Int32 → Option ((Mem × Int32 × Int32 × Int32) ⊕ (Mem × Int32 × Int32))), (x.bind fun q8 => (f q8).bind g) = (x.bind f).bind g := fun x f g => by cases x <;> rfl
      simp only [show ¬ (9 : Int32) < nI i from nI_nlt (a := 9) (by omega) (by omega), if_false, nI_1]
      rw [bb, g1, Option.bind_some]
      rcases hsS_ty (kV (gK A) t i) (gW A) t (slS (gK A) (gW A) t i).2.2 with q | ⟨n, n1, n2, n3⟩
      · rw [if_pos q] at e ⊢
        exact exL ⟨hlt, rfl, by rw [e], by rw [e], me2, f39, f41⟩
      · rw [n3, if_neg (nI_ne_m1 (by omega))] at e ⊢
        rw [nI_clamp (by omega)] at e
        exact exL ⟨hlt, rfl, by rw [e], by rw [e]; exact congrArg nI (show n = n - 1 + 1 by omega), me2, f39, f41⟩
    · have : i = 10 := by omega
      subst this
      simp only [show (9 : Int32) < nI 10 by decide, if_true]
      exact exR ⟨rfl, hme, h39⟩)
  simp only at k2 k3 k4
  rw [k1, k2]
  exact ⟨σ', rfl, k3, k4⟩
theorem sim_selling (x y : Int32) : Sim (fun σ => f_Game_selling σ x y) (fun σ => f_Model_selling σ x y) := Sim.ro fun A hA => by
  have t8 := hA.T8
  have b6 := hA.B6
  have e1 : (1 : Int64) = lN 1 := rfl
  have no : (∀ σ, CRel σ A → f_Game_selling σ x y = some (-1, σ)) → (∀ σ, MRel σ A → f_Model_selling σ x y = some (-1, sI σ 565 0 0)) → ∃ r, (∀ σ, CRel σ A → ∃ σ', (fun σ => f_Game_selling σ x y) σ = some (r, σ') ∧ SC (gL A).1 (gD A).1 σ σ') ∧ (∀ σ, MRel σ A → ∃ σ', (fun σ => f_Model_selling σ x y) σ = some (r, σ') ∧ SM (gL A).1 (gL A).2.1 σ σ') := fun h1 h2 =>
    ⟨-1, fun σ hC => ⟨σ, h1 σ hC, SC.refl _ _ _⟩, fun σ hM => ⟨_, h2 σ hM, SM_0 (v := 0) hM⟩⟩
  rcases isS_ty (cT (gK A)) x (by omega) with q | ⟨q, t, t1, rfl⟩
  · refine no (fun σ hC => ?_) (fun σ hM => ?_)
    · unfold f_Game_selling; rw [Trade_isThing hC.k, q]; rfl
    · unfold f_Model_selling; rw [Model_isThing (hM.z (v := 0) hA).k, q]; rfl
  · have hc := hA.city (Or.inl (by omega))
    have hcl : ((8 : Int32) + nI t).toNatClampNeg = 8 + t := by simp (disch := omega) only [Nat.add_sub_cancel, z_in, z_cl, c_le_t, c_le_f, c_lt_t, c_lt_f, c_eq_t, c_eq_f, c_le0_t, c_le0_f, c_0le, c_lt0, c_0lt, c_eq0_f, c_eq1_f, c_eq0_t, c_eq1_t, c_1le, c_lt1, c_m1, z_sub1, z_sub, nI_1, nI_add, pk_mul, Option.bind_some, if_true, if_false, ite_true, ite_false, l_2, l_3, l_4, l_5, l_6, l_7, l_8, l_9, l_10, l_11, l_12, l_13, l_15, l_16, l_20, l_23, l_24, l_30, l_32, l_40, l_41, l_48, l_50, l_57, l_59, l_60, l_61, l_99, l_100, l_104, l_109, l_112, l_115, l_116, l_119, l_126, l_127, l_128, l_129, l_130, l_131, l_132, l_177, l_192, l_240, l_312, l_999, l_1000, l_9999]
    have hin : inb ((8 : Int32) + nI t) 312 = true := by simp (disch := omega) only [Nat.add_sub_cancel, z_in, z_cl, c_le_t, c_le_f, c_lt_t, c_lt_f, c_eq_t, c_eq_f, c_le0_t, c_le0_f, c_0le, c_lt0, c_0lt, c_eq0_f, c_eq1_f, c_eq0_t, c_eq1_t, c_1le, c_lt1, c_m1, z_sub1, z_sub, nI_1, nI_add, pk_mul, Option.bind_some, if_true, if_false, ite_true, ite_false, l_2, l_3, l_4, l_5, l_6, l_7, l_8, l_9, l_10, l_11, l_12, l_13, l_15, l_16, l_20, l_23, l_24, l_30, l_32, l_40, l_41, l_48, l_50, l_57, l_59, l_60, l_61, l_99, l_100, l_104, l_109, l_112, l_115, l_116, l_119, l_126, l_127, l_128, l_129, l_130, l_131, l_132, l_177, l_192, l_240, l_312, l_999, l_1000, l_9999]
    have cq : ∀ σ, CRel σ A → f_Game_selling σ (nI t) y = if gW A (8 + t) = 1 then some (-1, σ) else if y < 0 then some (-1, σ) else if y ≤ 1 then (f_Outlook_seekWeight σ 6 (nI t)).bind fun q7 => if y = 0 then some (mI q7 434 2, q7) else some (mI q7 434 3, q7) else some (-1, σ) := fun σ hC => by
      unfold f_Game_selling
      rw [Trade_isThing hC.k, q, Option.bind_some, if_neg (by decide), if_pos (inb_nI (by omega) (by decide)), nI_clamp (by omega), show mI σ 8 t = gW A (8 + t) from ((hC.n hc).1.1 t (by omega)).2.1]
    have mq : ∀ σ, MRel σ A → f_Model_selling σ (nI t) y = if gW A (8 + t) = 1 then some (-1, sI σ 565 0 0) else if isR 0 1 y = 0 then some (-1, sI σ 565 0 0) else (loopF (f_Model_selling_L52 (nI t) y) FU (sI (sI σ 565 0 0) 565 41 (nI t), -1, 41, 0)).bind fun q => if q.2.1 = -1 then some (-1, sI q.1 565 41 (-1)) else if y = 0 then some (q.2.1, sI q.1 565 41 (-1)) else some (q.2.2, sI q.1 565 41 (-1)) := fun σ hM => by
      unfold f_Model_selling
      rw [Model_isThing (hM.z (v := 0) hA).k, q, Option.bind_some, if_neg (by decide), if_pos hin, hcl, (hM.z (v := 0) hA).w, l0, e1, Model_isInR (by omega) (by omega), Option.bind_some]
    by_cases w1 : gW A (8 + t) = 1
    · exact no (fun σ hC => by rw [cq σ hC, if_pos w1]) (fun σ hM => by rw [mq σ hM, if_pos w1])
    · rcases rng0 1 y (by omega) with ⟨s1, s2⟩ | ⟨s1, s2, s3⟩ | ⟨s1, k, k1, rfl⟩
      · exact no (fun σ hC => by rw [cq σ hC, if_neg w1, if_pos s1]) (fun σ hM => by rw [mq σ hM, if_neg w1, if_pos s2])
      · exact no (fun σ hC => by rw [cq σ hC, if_neg w1, if_neg s1, if_neg (show ¬ y ≤ (1 : Int32) from Int32.not_le.mpr s2)]) (fun σ hM => by rw [mq σ hM, if_neg w1, if_pos s3])
      · obtain ⟨-, so⟩ := slS_ok (gK A) (gW A) t 10 (by omega)
        refine ⟨if nI k = 0 then (slS (gK A) (gW A) t 10).1 else (slS (gK A) (gW A) t 10).2.1, fun σ hC => ?_, fun σ hM => ?_⟩
        · obtain ⟨σ', g1, g2, g3, g4⟩ := Outlook_seekWeight hA hC hc t1
          refine ⟨σ', ?_, g2⟩
          show f_Game_selling σ (nI t) (nI k) = _
          rw [cq σ hC, if_neg w1, if_neg (nI_pos (by omega)), if_pos (show nI k ≤ (1 : Int32) from nI_le (b := 1) k1 (by omega)), g1, Option.bind_some, g3, g4]
          split <;> rfl
        · have hz := hM.z (v := 0) hA
          obtain ⟨σ', g1, g2, g3⟩ := Model_selling_loop (x2 := nI k) hA hz hc t1
          have me := g2.set (k := 41) (v := -1) hA (by omega)
          have sm := me.sm (by rw [row_sI, upd_ne (by omega), g3]; exact hz.2.2.2.2.2.1.1.symm) (by rw [row_sI, upd_self]; exact hz.2.2.2.2.2.1.2.symm)
          refine ⟨sI σ' 565 41 (-1), ?_, (SM_0 (v := 0) hM).trans sm⟩
          show f_Model_selling σ (nI t) (nI k) = _
          rw [mq σ hM, if_neg w1, if_neg (by rw [s1]; decide), g1, Option.bind_some]
          dsimp only
          refine so.elim (fun h => ?_) (fun h => ?_)
          · rw [if_pos h.1, h.1, h.2]
            split <;> rfl
          · rw [if_neg h.1, h.2]
            split <;> rfl
