/-! the class: picked up, put back, a bill written -/
theorem RS.bills {σ σ' : Mem} {o : Nat} {K : Cy} {w w' : Rw} (hT : cT K ≤ 8) (hB : cB K ≤ 6) (h : RS σ o K w) (hout : ∀ i, (i < 30 ∨ (127 ≤ i ∧ i < 131)) → w' i = w i) (hcell : ∀ a, o ≤ a → a < o + 10 → a ≠ o → a ≠ o + 8 → mI σ' a = mI σ a) (h0 : ∀ k, k ≠ 9 → mI σ' o k = mI σ o k) (h9 : mI σ' o 9 = w' 126) (hb : ∀ i, i < 4 * mny w' → mI σ' (o + 8) i = w' (30 + i)) : RS σ' o K w' := by
  obtain ⟨r1, r2, r3, r4, r5, ⟨r6, r7, r8, r9, r10⟩, r11⟩ := h
  have c : ∀ k, 0 < k → k < 10 → k ≠ 8 → mI σ' (o + k) = mI σ (o + k) := fun k h1 h2 h3 => hcell _ (by omega) (by omega) (by omega) (by omega)
  refine ⟨fun t ht => ?_, fun t ht => ?_, fun b hb => ?_, fun b hb => ?_, hb, ⟨h9, ?_, ?_, ?_, ?_⟩, ?_⟩
  · rw [c 1 (by omega) (by omega) (by omega), c 2 (by omega) (by omega) (by omega), c 3 (by omega) (by omega) (by omega), hout t (by omega), hout (8 + t) (by omega), hout (16 + t) (by omega)]
    exact r1 t ht
  · rw [c 4 (by omega) (by omega) (by omega)]; exact r2 t ht
  · rw [c 5 (by omega) (by omega) (by omega), holdS_congr hT fun i hi => hout i (by omega)]; exact r3 b hb
  · rw [c 6 (by omega) (by omega) (by omega), c 7 (by omega) (by omega) (by omega), hout (24 + b) (by omega)]; exact r4 b hb
  · rw [h0 _ (by omega), hout _ (by omega)]; exact r7
  · rw [h0 _ (by omega), hout _ (by omega)]; exact r8
  · rw [h0 _ (by omega), hout _ (by omega)]; exact r9
  · rw [h0 _ (by omega), hout _ (by omega)]; exact r10
  · rw [h0 _ (by omega)]; exact r11
theorem CR.of {J : Mem → Prop} {lk : Int32 → Int32 → Int32 → Int32 → Int32 → Int32 → Int32} (hJ : LkC J lk) {o : Nat} {K : Cy} {σ σ' : Mem} {w : Rw} (ho : OkO o) (hj : J σ) (h : RS σ' o K w) (g : CX o σ σ') (h10 : mI σ' o 10 = mI σ o 10) (h9 : mI σ' (o + 9) = mI σ (o + 9)) : CR J o K σ w σ' := ⟨h, g, J_CX hJ ho hj g, h10, h9⟩
theorem Trade_pickUp {J : Mem → Prop} {K : Cy} {σ : Mem} {o b t N : Nat} {w : Rw} (hJ : LkC J (cL K)) (hK : CyOk K) (ho : OkO o) (hj : J σ) (hr : RS σ o K w) (hw : Wf (cT K) (cB K) N w) (hb : b < cB K) (ht : t < cT K) (hf : w t = -1) (hh : holdS w (cT K) (nI b) = -1) : ∃ σ', f_Trade_pickUp σ o (nI b) (nI t) = some σ' ∧ CR J o K σ (pkS w b t) σ' := by
  have h8 := hK.1
  have h6 := hK.2.1
  have hw' := pkS_wf h8 h6 hw hb ht hf hh
  have e : ∀ i, i ≠ t → i ≠ 16 + t → pkS w b t i = w i := fun i h6 h7 => by unfold pkS; rw [upd_ne h7, upd_ne h6]
  have et : pkS w b t t = nI b := by unfold pkS; rw [upd_ne (by omega), upd_self]
  have em : mny (pkS w b t) = mny w := by unfold mny; rw [e _ (by omega) (by omega)]
  unfold f_Trade_pickUp
  simp (disch := omega) only [Nat.add_sub_cancel, z_in, z_cl, c_le_t, c_le_f, c_lt_t, c_lt_f, c_eq_t, c_eq_f, c_le0_t, c_le0_f, c_0le, c_lt0, c_0lt, c_eq0_f, c_eq1_f, c_eq0_t, c_eq1_t, c_1le, c_lt1, c_m1, z_sub1, z_sub, nI_1, nI_add, pk_mul, Option.bind_some, if_true, if_false, ite_true, ite_false, l_2, l_3, l_4, l_5, l_6, l_7, l_8, l_9, l_10, l_11, l_12, l_13, l_15, l_16, l_20, l_23, l_24, l_30, l_32, l_40, l_41, l_48, l_50, l_57, l_59, l_60, l_61, l_99, l_100, l_104, l_109, l_112, l_115, l_116, l_119, l_126, l_127, l_128, l_129, l_130, l_131, l_132, l_177, l_192, l_240, l_312, l_999, l_1000, l_9999]
  refine ⟨_, rfl, CR.of hJ ho hj ?_ (((CX_sI (by omega)).trans (CX_sI (by omega))).trans (CX_sI (by omega))) (by simp (disch := omega) only [row_ne]) (by simp (disch := omega) only [row_ne])⟩
  obtain ⟨r1, r2, r3, r4, r5, ⟨r6, r7, r8, r9, r10⟩, r11⟩ := hr
  unfold RS
  simp (disch := omega) only [row_ne, row_sI]
  refine ⟨fun u hu => ?_, r2, fun c hc => ?_, fun c hc => ?_, fun i hi => ?_, ⟨?_, ?_, ?_, ?_, ?_⟩, r11⟩
  · rw [upd_at, upd_at, e (8 + u) (by omega) (by omega)]
    by_cases hu2 : u = t
    · subst hu2
      rw [if_pos rfl, if_pos rfl, et]
      exact ⟨rfl, (r1 u hu).2.1, by unfold pkS; rw [upd_self]⟩
    · rw [if_neg hu2, if_neg hu2, e u hu2 (by omega), e (16 + u) (by omega) (by omega)]
      exact r1 u hu
  · rw [pkS_hold h8 hw.2.1 (by omega) hc ht hf hh hw'.2.1, upd_at, r3 c hc]
  · rw [e _ (by omega) (by omega)]; exact r4 c hc
  · rw [em] at hi
    rw [e _ (by omega) (by omega)]; exact r5 i hi
  · rw [e _ (by omega) (by omega)]; exact r6
  · rw [e _ (by omega) (by omega)]; exact r7
  · rw [e _ (by omega) (by omega)]; exact r8
  · rw [e _ (by omega) (by omega)]; exact r9
  · rw [e _ (by omega) (by omega)]; exact r10
theorem State_writeBill_J30 {J : Mem → Prop} {K : Cy} {σ : Mem} {o b t n : Nat} {w : Rw} {due : Int32} (hJ : LkC J (cL K)) (hK : CyOk K) (ho : OkO o) (hj : J σ) (hr : RS σ o K w) (hn : n ≤ 23) (hm : w 126 = nI n) : ∃ σ', f_State_writeBill_J30 σ o (nI b) (nI t) due = some σ' ∧ CR J o K σ (adS w n b t due) σ' := by
  have h8 := hK.1
  have h6 := hK.2.1
  have hmm : mny w = n := mny_eq (by omega) hm
  have h9 : mI σ o 9 = nI n := hr.2.2.2.2.2.1.1.trans hm
  have h14 : mI σ o 14 = w 130 := hr.2.2.2.2.2.1.2.2.2.2
  unfold f_State_writeBill_J30
  simp (disch := omega) only [Nat.add_sub_cancel, z_in, z_cl, c_le_t, c_le_f, c_lt_t, c_lt_f, c_eq_t, c_eq_f, c_le0_t, c_le0_f, c_0le, c_lt0, c_0lt, c_eq0_f, c_eq1_f, c_eq0_t, c_eq1_t, c_1le, c_lt1, c_m1, z_sub1, z_sub, nI_1, nI_add, pk_mul, Option.bind_some, if_true, if_false, ite_true, ite_false, l_2, l_3, l_4, l_5, l_6, l_7, l_8, l_9, l_10, l_11, l_12, l_13, l_15, l_16, l_20, l_23, l_24, l_30, l_32, l_40, l_41, l_48, l_50, l_57, l_59, l_60, l_61, l_99, l_100, l_104, l_109, l_112, l_115, l_116, l_119, l_126, l_127, l_128, l_129, l_130, l_131, l_132, l_177, l_192, l_240, l_312, l_999, l_1000, l_9999, h9, row_ne, h14, Nat.mul_comm n 4]
  refine ⟨_, rfl, CR.of hJ ho hj ?_ (((((CX_sI (by omega)).trans (CX_sI (by omega))).trans (CX_sI (by omega))).trans (CX_sI (by omega))).trans (CX_sI (by omega))) (by simp (disch := omega) only [row_ne, row_sI, upd_ne]) (by simp (disch := omega) only [row_ne])⟩
  refine RS.bills h8 h6 hr (fun i hi => adS_out hn (by omega)) (fun a h1 h2 h3 h4 => by simp (disch := omega) only [row_ne]) (fun k hk => by simp (disch := omega) only [row_ne, row_sI, upd_ne]) (by simp (disch := omega) only [row_sI, upd_self, adS_n]) ?_
  intro i hi
  rw [show mny (adS w n b t due) = n + 1 from mny_eq (by omega) adS_n] at hi
  simp (disch := omega) only [row_ne, row_sI]
  unfold adS
  simp only [upd_at]
  have hb5 : i < 4 * n → mI σ (o + 8) i = w (30 + i) := fun q => hr.2.2.2.2.1 i (by rw [hmm]; exact q)
  by_cases c3 : i = 4 * n + 3
  · subst c3
    rw [if_pos rfl, if_neg (by omega), if_pos (by omega)]
  · rw [if_neg c3, if_neg (show ¬ 30 + i = 126 by omega), if_neg (show ¬ 30 + i = 30 + 4 * n + 3 by omega)]
    by_cases c2 : i = 4 * n + 2
    · subst c2
      rw [if_pos rfl, if_pos (by omega)]
    · rw [if_neg c2, if_neg (show ¬ 30 + i = 30 + 4 * n + 2 by omega)]
      by_cases c1 : i = 4 * n + 1
      · subst c1
        rw [if_pos rfl, if_pos (by omega)]
      · rw [if_neg c1, if_neg (show ¬ 30 + i = 30 + 4 * n + 1 by omega)]
        by_cases c0 : i = 4 * n
        · subst c0
          rw [if_pos rfl, if_pos rfl]
        · rw [if_neg c0, if_neg (show ¬ 30 + i = 30 + 4 * n by omega)]
          exact hb5 (by omega)
theorem State_writeBill {J : Mem → Prop} {K : Cy} {σ : Mem} {o b t N : Nat} {w : Rw} {due : Int32} (hJ : LkC J (cL K)) (hK : CyOk K) (ho : OkO o) (hj : J σ) (hr : RS σ o K w) (hw : WfB N w) : ∃ σ', f_State_writeBill σ o (nI b) (nI t) due = some σ' ∧ CR J o K σ (wrS w b t due) σ' := by
  have h8 := hK.1
  have h6 := hK.2.1
  obtain ⟨n, n1, n2, -⟩ := hw
  have h9 : mI σ o 9 = nI n := hr.2.2.2.2.2.1.1.trans n2
  have hmm : mny w = n := mny_eq (by omega) n2
  unfold f_State_writeBill wrS
  rw [hmm, h9]
  by_cases h24 : n = 24
  · subst h24
    rw [if_neg (show ¬ nI 24 < (24 : Int32) by decide), if_pos (by decide), if_pos rfl, Option.bind_some]
    have cc : cpyM (mI σ (o + 8)) (mI σ (o + 8)) 4 0 92 = fun k => if k < 92 then mI σ (o + 8) (4 + k) else mI σ (o + 8) k := by
      funext k
      show va_cpy _ _ 4 0 92 k = _
      unfold va_cpy
      by_cases hk : k < 92
      · rw [if_pos ⟨by omega, by omega⟩, if_pos hk]; rfl
      · rw [if_neg (by omega), if_neg hk]
    rw [cc]
    have r1 : CR J o K σ (stS w 0 24) (sI (rI σ (o + 8) (fun k => if k < 92 then mI σ (o + 8) (4 + k) else mI σ (o + 8) k)) o 9 23) := by
      refine CR.of hJ ho hj ?_ ((CX_rI (by omega)).trans (CX_sI (by omega))) (by simp (disch := omega) only [row_sI, rowr_ne, upd_ne]) (by simp (disch := omega) only [row_ne, rowr_ne])
      refine RS.bills h8 h6 hr (fun i hi => stS_out (by omega) (by omega)) (fun a h1 h2 h3 h4 => by simp (disch := omega) only [row_ne, rowr_ne]) (fun k hk => by simp (disch := omega) only [row_sI, rowr_ne, upd_ne]) (by rw [row_sI, upd_self, stS_n (by omega)]; rfl) ?_
      intro i hi
      rw [show mny (stS w 0 24) = 23 from mny_eq (by omega) (stS_n (by omega))] at hi
      simp (disch := omega) only [row_ne, rowr_self]
      rw [if_pos (by omega), hr.2.2.2.2.1 (4 + i) (by rw [hmm]; omega), stS_hi (by omega) (by omega)]
      congr 1; omega
    obtain ⟨σ2, g1, g2⟩ := State_writeBill_J30 (b := b) (t := t) (due := due) hJ hK ho r1.2.2.1 r1.1 (show 23 ≤ 23 by omega) (stS_n (by omega))
    exact ⟨σ2, g1, r1.trans g2⟩
  · rw [if_pos (show nI n < (24 : Int32) from nI_lt (b := 24) (by omega) (by omega)), if_neg h24]
    exact State_writeBill_J30 hJ hK ho hj hr (by omega) n2
