/-! selling in the reference -/
theorem TR_copy2 {A : Gh} {σ : Mem} {w : Rw} (hA : gOk A) (hi : iA A σ) (hw : mI σ 578 = w) : ∃ σ', f_Model_copy σ 578 579 = some σ' ∧ TR A σ w σ' := by
  refine ⟨_, Model_copy, fun i hi => ?_, ⟨fun c c1 _ _ _ _ => rowr_ne c1, fun _ _ => rfl, fun _ _ _ => rfl, fun k _ => by rw [rowr_ne (by omega)]⟩, hA.I.1 σ _ hi ⟨rowr_ne (by omega), rowr_ne (by omega), rfl, rowr_ne (by omega), by rw [rowr_ne (by omega)]⟩⟩
  rw [rowr_self, if_pos hi, hw]
/-- as σ, but for the reference's own numbers; what is tried may be another -/
def ME (A : Gh) (σ τ : Mem) : Prop := (∀ c, c ≠ 565 → c ≠ 569 → c ≠ 579 → c ≠ 581 → c ≠ 582 → c ≠ 586 → c ≠ 587 → mI τ c = mI σ c) ∧ (∀ k, ¬ (8 ≤ k ∧ k ≤ 14 ∨ k = 17 ∨ (39 ≤ k ∧ k ≤ 42)) → mI τ 565 k = mI σ 565 k) ∧ (∀ c, c ≠ 581 → mL τ c = mL σ c) ∧ (∀ c k, (c ≠ 565 ∨ k ≠ 5) → mR τ c k = mR σ c k) ∧ iA A τ
theorem ME.mx {A : Gh} {σ τ τ' : Mem} {w : Rw} (h : ME A σ τ) (g : TR A τ w τ') : ME A σ τ' := ⟨fun c c1 c2 c3 c4 c5 c6 c7 => (g.2.1.1 c c3 c1 c2 c4 c5).trans (h.1 c c1 c2 c3 c4 c5 c6 c7), fun k hk => (g.2.1.2.2.2 k (by omega)).trans (h.2.1 k hk), fun c hc => (g.2.1.2.1 c hc).trans (h.2.2.1 c hc), fun c k hck => (g.2.1.2.2.1 c k hck).trans (h.2.2.2.1 c k hck), g.2.2⟩
theorem ME.set {A : Gh} {σ τ : Mem} {k : Nat} {v : Int32} (hA : gOk A) (h : ME A σ τ) (hk : 39 ≤ k ∧ k ≤ 42) : ME A σ (sI τ 565 k v) := by
  refine ⟨fun c c1 c2 c3 c4 c5 c6 c7 => (row_ne c1).trans (h.1 c c1 c2 c3 c4 c5 c6 c7), fun j hj => by rw [row_sI, upd_ne (by omega)]; exact h.2.1 j hj, h.2.2.1, h.2.2.2.1, hA.I.1 τ _ h.2.2.2.2 ⟨row_ne (by omega), row_ne (by omega), rfl, row_ne (by omega), by rw [row_sI, upd_ne (by omega)]⟩⟩
theorem ME.sm {A : Gh} {σ τ : Mem} (h : ME A σ τ) (h1 : mI τ 565 39 = mI σ 565 39) (h2 : mI τ 565 41 = mI σ 565 41) : SM (gL A).1 (gL A).2.1 σ τ := by
  refine ⟨fun a ha => h.1 a (by omega) (by omega) (by omega) (by omega) (by omega) (by omega) (by omega), fun k hk => ?_, fun k _ => by rw [h.1 576 (by omega) (by omega) (by omega) (by omega) (by omega) (by omega) (by omega)], fun k _ => by rw [h.1 577 (by omega) (by omega) (by omega) (by omega) (by omega) (by omega) (by omega)], h.2.2.2.2.1, fun c hc => ⟨h.1 c (by omega) (by omega) (by omega) (by omega) (by omega) (by omega) (by omega), h.2.2.1 c (by omega), funext fun k => h.2.2.2.1 c k (by omega)⟩⟩
  by_cases q : k = 39
  · rw [q]; exact h1
  · by_cases q2 : k = 41
    · rw [q2]; exact h2
    · exact h.2.1 k (by omega)
theorem ME.refl {A : Gh} {σ : Mem} (h : MRel σ A) : ME A σ σ := ⟨fun _ _ _ _ _ _ _ _ => rfl, fun _ _ => rfl, fun _ _ => rfl, fun _ _ _ => rfl, h.i⟩
/-- the city as it is tried by weight v for thing t -/
theorem ME.kV {A : Gh} {σ τ : Mem} {t v : Nat} (hA : gOk A) (hM : MRel σ A) (h : ME A σ τ) (h39 : mI τ 565 39 = -1) (h41 : mI τ 565 41 = nI t) (h42 : mI τ 565 42 = nI v) (ht : t < 8) : MK τ (kV (gK A) t v) := by
  have t8 := hA.T8
  have b6 := hA.B6
  obtain ⟨q1, q2, q3, q4, q5, q6, q7⟩ := hM.k
  have m := hM.2.2.2.2.2.1
  refine ⟨by rw [h.2.1 26 (by omega)]; exact q1, by rw [h.2.1 27 (by omega)]; exact q2, by rw [h.1 570 (by omega) (by omega) (by omega) (by omega) (by omega) (by omega) (by omega)]; exact q3, by rw [h.1 572 (by omega) (by omega) (by omega) (by omega) (by omega) (by omega) (by omega)]; exact q4, by rw [h.1 574 (by omega) (by omega) (by omega) (by omega) (by omega) (by omega) (by omega)]; exact q5, fun u hu => ?_, fun b hb => ?_⟩
  · have hu : u < cT (gK A) := hu
    rw [h41, h42]
    show upd (cV (gK A)) t (nI v) u = _
    rw [upd_at]
    by_cases e : u = t
    · rw [if_pos e, if_pos (by rw [e])]
    · rw [if_neg e, if_neg (fun q => e (nI_inj6 (by omega) (by omega) q))]
      exact hA.2.2.2.2.1 u hu
  · have hb : b < cB (gK A) := hb
    rw [h39, if_neg (nI_ne_m1 (by omega))]
    exact hA.2.2.2.2.2.1 b hb
theorem itH_01 {K : Cy} {w : Rw} {N n t : Nat} (hK : CyOk K) (hw : Wf (cT K) (cB K) N w) (ht : t < cT K) : itH K w n (8 + t) = 0 ∨ itH K w n (8 + t) = 1 := by
  rcases (itH_wf hK hw n).2.1.2.1 t ht with q | q
  · exact Or.inl q
  · exact Or.inr q.1
theorem Model_selling_in {A : Gh} {τ : Mem} {t v m : Nat} {x2 b0 : Int32} (hA : gOk A) (hc : hasC A) (hk : MK τ (kV (gK A) t v)) (hi : iA A τ) (hw : mI τ 578 = gW A) (ht : t < cT (gK A)) (hv : v ≤ 9) (hm : m ≤ 40) : ∃ σ' u, ((f_Model_copy τ 578 579).bind fun q8 => loopF (f_Model_selling_L79 (nI t) x2 (nI v)) FU (q8, b0, nI (m + 1), (1 : Int32))) = some (σ', if hsS (kV (gK A) t v) (gW A) t m = -1 then (b0, nI (m + 1)) else (nI v, hsS (kV (gK A) t v) (gW A) t m)) ∧ TR A τ u σ' := by
  have t8 := hA.T8
  have hK := kV_ok (t := t) hc.2.2.1 hv
  have wf : Wf (cT (kV (gK A) t v)) (cB (kV (gK A) t v)) 10000 (gW A) := hc.2.2.2.1.1
  obtain ⟨σ1, g1, g2⟩ := TR_copy2 hA hi hw
  have hcl : ((8 : Int32) + nI t).toNatClampNeg = 8 + t := by simp (disch := omega) only [Nat.add_sub_cancel, z_in, z_cl, c_le_t, c_le_f, c_lt_t, c_lt_f, c_eq_t, c_eq_f, c_le0_t, c_le0_f, c_0le, c_lt0, c_0lt, c_eq0_f, c_eq1_f, c_eq0_t, c_eq1_t, c_1le, c_lt1, c_m1, z_sub1, z_sub, nI_1, nI_add, pk_mul, Option.bind_some, if_true, if_false, ite_true, ite_false, l_2, l_3, l_4, l_5, l_6, l_7, l_8, l_9, l_10, l_11, l_12, l_13, l_15, l_16, l_20, l_23, l_24, l_30, l_32, l_40, l_41, l_48, l_50, l_57, l_59, l_60, l_61, l_99, l_100, l_104, l_109, l_112, l_115, l_116, l_119, l_126, l_127, l_128, l_129, l_130, l_131, l_132, l_177, l_192, l_240, l_312, l_999, l_1000, l_9999]
  have hin : inb ((8 : Int32) + nI t) 131 = true := by simp (disch := omega) only [Nat.add_sub_cancel, z_in, z_cl, c_le_t, c_le_f, c_lt_t, c_lt_f, c_eq_t, c_eq_f, c_le0_t, c_le0_f, c_0le, c_lt0, c_0lt, c_eq0_f, c_eq1_f, c_eq0_t, c_eq1_t, c_1le, c_lt1, c_m1, z_sub1, z_sub, nI_1, nI_add, pk_mul, Option.bind_some, if_true, if_false, ite_true, ite_false, l_2, l_3, l_4, l_5, l_6, l_7, l_8, l_9, l_10, l_11, l_12, l_13, l_15, l_16, l_20, l_23, l_24, l_30, l_32, l_40, l_41, l_48, l_50, l_57, l_59, l_60, l_61, l_99, l_100, l_104, l_109, l_112, l_115, l_116, l_119, l_126, l_127, l_128, l_129, l_130, l_131, l_132, l_177, l_192, l_240, l_312, l_999, l_1000, l_9999]
  obtain ⟨⟨σ2, r⟩, k1, k2, u, k3⟩ := loopF_go (step := f_Model_selling_L79 (nI t) x2 (nI v)) (a := (σ1, b0, nI (m + 1), (1 : Int32))) (fun i s => (s.2.2.2 = nI (1 + i) ∧ s.2.1 = b0 ∧ s.2.2.1 = nI (m + 1) ∧ TR A τ (itH (kV (gK A) t v) (gW A) i) s.1 ∧ i ≤ m ∧ ∀ k, 1 ≤ k → k < 1 + i → decide (itH (kV (gK A) t v) (gW A) k (8 + t) = 1) = false) ∨ (1 ≤ i ∧ hsS (kV (gK A) t v) (gW A) t m ≠ -1 ∧ s.2.1 = nI v ∧ s.2.2.1 = hsS (kV (gK A) t v) (gW A) t m ∧ s.2.2.1 ≤ s.2.2.2 ∧ ∃ u, TR A τ u s.1)) (fun r => r.2 = (if hsS (kV (gK A) t v) (gW A) t m = -1 then (b0, nI (m + 1)) else (nI v, hsS (kV (gK A) t v) (gW A) t m)) ∧ ∃ u, TR A τ u r.1) (m + 1) (Or.inl ⟨rfl, rfl, rfl, g2, by omega, fun k h1 h2 => by omega⟩) (by omega) (by
    rintro i ⟨ρ, z3, z4, z6⟩ him h
    rcases h with ⟨e6, e3, e4, ht1, him2, hno⟩ | ⟨h1, hne, e3, e4, hle, u, ht1⟩
    · simp only at e6 e3 e4 ht1 him2 hno
      subst e6; subst e3; subst e4
      unfold f_Model_selling_L79
      by_cases hlt : i < m
      · obtain ⟨ρ', p1, p2, -⟩ := TR_hour (K := kV (gK A) t v) rfl hA hK (hk.fr (Or.inr rfl) ht1.2.1) ht1 (itH_wf hK wf i) (by omega)
        have e1 : mI ρ' 579 (8 + t) = itH (kV (gK A) t v) (gW A) (1 + i) (8 + t) := by rw [Nat.add_comm 1 i]; exact p2.1 (8 + t) (by omega)
        simp only [show ¬ nI (m + 1) ≤ nI (1 + i) from nI_ge (by omega) (by omega), if_false, p1, Option.bind_some, hin, hcl, if_true, e1, nI_1]
        by_cases q : itH (kV (gK A) t v) (gW A) (1 + i) (8 + t) = 1
        · have hh : hsS (kV (gK A) t v) (gW A) t m = nI (1 + i) := firstR_at (P := fun n => decide (itH (kV (gK A) t v) (gW A) n (8 + t) = 1)) (r := fun n => nI n) (r0 := (-1 : Int32)) m 1 (1 + i) (by omega) (by omega) hno (decide_eq_true q)
          rw [if_neg (by rw [q]; decide)]
          exact exL ⟨by omega, Or.inr ⟨by omega, by rw [hh]; exact nI_ne_m1 (by omega), rfl, hh.symm, nI_le (by omega) (by omega), _, p2⟩⟩
        · rcases itH_01 (n := 1 + i) hK wf ht with q0 | q0
          · rw [if_pos q0]
            refine exL ⟨by omega, Or.inl ⟨rfl, rfl, rfl, p2, by omega, fun k h1 h2 => ?_⟩⟩
            by_cases e : k = 1 + i
            · subst e; exact decide_eq_false q
            · exact hno k h1 (by omega)
          · exact absurd q0 q
      · have : i = m := by omega
        subst this
        have hh : hsS (kV (gK A) t v) (gW A) t i = -1 := firstR_no i 1 fun k h1 h2 => hno k h1 (by omega)
        simp only [show nI (i + 1) ≤ nI (1 + i) from nI_le (by omega) (by omega), if_true]
        exact exR ⟨by rw [if_pos hh], _, ht1⟩
    · simp only at e3 e4 hle ht1
      unfold f_Model_selling_L79
      simp only [hle, if_true]
      exact exR ⟨by rw [if_neg hne, e3, e4], u, ht1⟩)
  simp only at k2 k3
  rw [g1, Option.bind_some, k1, k2]
  exact ⟨σ2, u, rfl, k3⟩
