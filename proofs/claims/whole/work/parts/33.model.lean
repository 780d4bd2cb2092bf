/-! the reference: what its own helpers leave as it was -/
def MX (a : Nat) (σ σ' : Mem) : Prop := (∀ c, c ≠ a → c ≠ 565 → c ≠ 569 → c ≠ 581 → c ≠ 582 → mI σ' c = mI σ c) ∧ (∀ c, c ≠ 581 → mL σ' c = mL σ c) ∧ (∀ c k, (c ≠ 565 ∨ k ≠ 5) → mR σ' c k = mR σ c k) ∧ (∀ k, ¬ (8 ≤ k ∧ k ≤ 14 ∨ k = 17) → mI σ' 565 k = mI σ 565 k)
theorem MX.refl (a : Nat) (σ : Mem) : MX a σ σ := ⟨fun _ _ _ _ _ _ => rfl, fun _ _ => rfl, fun _ _ _ => rfl, fun _ _ => rfl⟩
theorem MX.trans {a : Nat} {σ σ1 σ2 : Mem} (h : MX a σ σ1) (g : MX a σ1 σ2) : MX a σ σ2 := ⟨fun c h1 h2 h3 h4 h5 => (g.1 c h1 h2 h3 h4 h5).trans (h.1 c h1 h2 h3 h4 h5), fun c h1 => (g.2.1 c h1).trans (h.2.1 c h1), fun c k h1 => (g.2.2.1 c k h1).trans (h.2.2.1 c k h1), fun k h1 => (g.2.2.2 k h1).trans (h.2.2.2 k h1)⟩
theorem MX.to {a : Nat} {σ σ' : Mem} (h : MX 569 σ σ') : MX a σ σ' := ⟨fun c _ h2 h3 h4 h5 => h.1 c h3 h2 h3 h4 h5, h.2.1, h.2.2.1, h.2.2.2⟩
theorem MX_sI {a k : Nat} {v : Int32} {σ : Mem} (ha : a ≠ 565) : MX a σ (sI σ a k v) := ⟨fun c h1 _ _ _ _ => row_ne h1, fun _ _ => rfl, fun _ _ _ => rfl, fun k _ => by rw [row_ne (fun q => ha q.symm)]⟩
/-- what the liking of the reference rests on -/
def eqI (σ σ' : Mem) : Prop := mI σ' 567 = mI σ 567 ∧ mI σ' 568 = mI σ 568 ∧ mL σ' 581 = mL σ 581 ∧ mI σ' 582 = mI σ 582 ∧ mI σ' 565 35 = mI σ 565 35
def LkM (I : Mem → Prop) (lk : Int32 → Int32 → Int32 → Int32 → Int32 → Int32 → Int32) : Prop := (∀ σ σ', I σ → eqI σ σ' → I σ') ∧ (∀ σ, I σ → mI σ 565 35 = -1 → ∀ p w d m s h, w < 10 → d < 10 → lk p (nI w) (nI d) m s h = imin 99 (4 * nI d + nI w)) ∧ (∀ σ, I σ → mI σ 565 35 ≠ -1 → ∀ p w d m s h, p < 100 → w < 10 → d < 10 → m < 1000 → s < 4 → h < 24 → ∃ σ', f_Model_worthOf σ (nI p) (nI w) (nI d) (nI m) (nI s) (nI h) = some (lk (nI p) (nI w) (nI d) (nI m) (nI s) (nI h), σ') ∧ MX 569 σ σ' ∧ I σ')
theorem I_sI {I : Mem → Prop} {lk : Int32 → Int32 → Int32 → Int32 → Int32 → Int32 → Int32} (hI : LkM I lk) {σ : Mem} {a k : Nat} {v : Int32} (h : I σ) (ha : a = 578 ∨ a = 579) : I (sI σ a k v) :=
  hI.1 σ _ h ⟨row_ne (by omega), row_ne (by omega), rfl, row_ne (by omega), by rw [row_ne (by omega)]⟩
/-- the reference's memory holds the city K -/
def MK (σ : Mem) (K : Cy) : Prop := mI σ 565 26 = nI (cT K) ∧ mI σ 565 27 = nI (cB K) ∧ mI σ 570 = cR K ∧ mI σ 572 = cW K ∧ mI σ 574 = cF K ∧ (∀ t, t < cT K → cV K t = if nI t = mI σ 565 41 then mI σ 565 42 else cW K (3 * t + 1)) ∧ (∀ b, b < cB K → cD K b = if nI b = mI σ 565 39 then mI σ 565 40 else cF K (4 * b + 1))
theorem MK.fr {a : Nat} {σ σ' : Mem} {K : Cy} (ha : a = 578 ∨ a = 579) (h : MK σ K) (g : MX a σ σ') : MK σ' K := by
  obtain ⟨h1, h2, h3, h4, h5, h6, h7⟩ := h
  obtain ⟨g1, g2, g3, g4⟩ := g
  refine ⟨by rw [g4 _ (by omega)]; exact h1, by rw [g4 _ (by omega)]; exact h2, by rw [g1 _ (by omega) (by omega) (by omega) (by omega) (by omega)]; exact h3, by rw [g1 _ (by omega) (by omega) (by omega) (by omega) (by omega)]; exact h4, by rw [g1 _ (by omega) (by omega) (by omega) (by omega) (by omega)]; exact h5, fun t ht => ?_, fun b hb => ?_⟩
  · rw [g4 41 (by omega), g4 42 (by omega)]; exact h6 t ht
  · rw [g4 39 (by omega), g4 40 (by omega)]; exact h7 b hb
theorem Model_desireOf {σ : Mem} {K : Cy} {b : Nat} (h : MK σ K) (hb : b < cB K) (h6 : cB K ≤ 6) : f_Model_desireOf σ (nI b) = some (cD K b) := by
  unfold f_Model_desireOf
  rw [h.2.2.2.2.2.2 b hb, h.2.2.2.2.1]
  by_cases q : nI b = mI σ 565 39
  · rw [if_pos q, if_pos q]
  · rw [if_neg q, if_neg q]
    simp (disch := omega) only [Nat.add_sub_cancel, z_in, z_cl, c_le_t, c_le_f, c_lt_t, c_lt_f, c_eq_t, c_eq_f, c_le0_t, c_le0_f, c_0le, c_lt0, c_0lt, c_eq0_f, c_eq1_f, c_eq0_t, c_eq1_t, c_1le, c_lt1, c_m1, z_sub1, z_sub, nI_1, nI_add, pk_mul, Option.bind_some, if_true, if_false, ite_true, ite_false, l_2, l_3, l_4, l_5, l_6, l_7, l_8, l_9, l_10, l_11, l_12, l_13, l_15, l_16, l_20, l_23, l_24, l_30, l_32, l_40, l_41, l_48, l_50, l_57, l_59, l_60, l_61, l_99, l_100, l_104, l_109, l_112, l_115, l_116, l_119, l_126, l_127, l_128, l_129, l_130, l_131, l_132, l_177, l_192, l_240, l_312, l_999, l_1000, l_9999]
theorem Model_weightOf {σ : Mem} {K : Cy} {t : Nat} (h : MK σ K) (ht : t < cT K) (h6 : cT K ≤ 8) : f_Model_weightOf σ (nI t) = some (cV K t) := by
  unfold f_Model_weightOf
  rw [h.2.2.2.2.2.1 t ht, h.2.2.2.1]
  by_cases q : nI t = mI σ 565 41
  · rw [if_pos q, if_pos q]
  · rw [if_neg q, if_neg q]
    simp (disch := omega) only [Nat.add_sub_cancel, z_in, z_cl, c_le_t, c_le_f, c_lt_t, c_lt_f, c_eq_t, c_eq_f, c_le0_t, c_le0_f, c_0le, c_lt0, c_0lt, c_eq0_f, c_eq1_f, c_eq0_t, c_eq1_t, c_1le, c_lt1, c_m1, z_sub1, z_sub, nI_1, nI_add, pk_mul, Option.bind_some, if_true, if_false, ite_true, ite_false, l_2, l_3, l_4, l_5, l_6, l_7, l_8, l_9, l_10, l_11, l_12, l_13, l_15, l_16, l_20, l_23, l_24, l_30, l_32, l_40, l_41, l_48, l_50, l_57, l_59, l_60, l_61, l_99, l_100, l_104, l_109, l_112, l_115, l_116, l_119, l_126, l_127, l_128, l_129, l_130, l_131, l_132, l_177, l_192, l_240, l_312, l_999, l_1000, l_9999]
theorem ln_row {a : Nat} (h : a = 578 ∨ a = 579) : 131 ≤ ln a := by rcases h with rfl | rfl <;> decide +kernel
theorem z_inr {k m : Nat} (h : k < 131) (hm : 131 ≤ m) : inb (nI k) m = true := inbL (n := 131) (inb_nI h (by omega)) hm
theorem Model_likingOf {I : Mem → Prop} {K : Cy} {σ : Mem} {a b t N : Nat} (hI : LkM I (cL K)) (hK : CyOk K) (h : MK σ K) (ha : a = 578 ∨ a = 579) (hi : I σ) (hw : Wf (cT K) (cB K) N (mI σ a)) (hN : N < 2 ^ 30) (hb : b < cB K) (ht : t < cT K) : ∃ σ', f_Model_likingOf σ a (nI b) (nI t) = some (lkS K (mI σ a) b t, σ') ∧ MX 569 σ σ' ∧ I σ' := by
  have hln := ln_row ha
  have h8 := hK.1
  have h6 := hK.2.1
  obtain ⟨p, p1, p2, p3⟩ := hK.2.2.1 t ht
  obtain ⟨s, s1, s2⟩ := hK.2.2.2.1 t ht
  obtain ⟨v, v1, v2⟩ := hK.2.2.2.2.1 t ht
  obtain ⟨d, d1, d2⟩ := hK.2.2.2.2.2.1 b hb
  obtain ⟨m, m1, m2⟩ := hw.2.2.1 b hb
  obtain ⟨x, x1, x2⟩ := hw.2.2.2.2
  unfold f_Model_likingOf
  by_cases hl : mI σ 565 35 = -1
  · rw [if_pos hl, Model_desireOf h hb h6, Model_weightOf h ht h8]
    refine ⟨σ, ?_, MX.refl _ _, hi⟩
    simp only [Option.bind_some]
    unfold lkS
    rw [v2, d2, hI.2.1 σ hi hl _ v d _ _ _ v1 d1]
  · rw [if_neg hl]
    obtain ⟨σ', e1, e2, e3⟩ := hI.2.2 σ hi hl p v d m s (x % 24) p2 v1 d1 m1 s1 (Nat.mod_lt _ (by decide))
    refine ⟨σ', ?_, e2, e3⟩
    have e4 : lkS K (mI σ a) b t = cL K (nI p) (nI v) (nI d) (nI m) (nI s) (nI (x % 24)) := by
      unfold lkS
      rw [p3, v2, d2, m2, s2, x2, show (24 : Int32) = nI 24 from rfl, pk_rem (by omega) (by omega) (by omega)]
    have e5 : nI x - nI x / nI 24 * nI 24 = nI (x % 24) := pk_rem (by omega) (by omega) (by omega)
    rw [e4, Model_desireOf h hb h6, Model_weightOf h ht h8, h.2.2.2.1]
    simp (disch := omega) only [Nat.add_sub_cancel, z_in, z_cl, c_le_t, c_le_f, c_lt_t, c_lt_f, c_eq_t, c_eq_f, c_le0_t, c_le0_f, c_0le, c_lt0, c_0lt, c_eq0_f, c_eq1_f, c_eq0_t, c_eq1_t, c_1le, c_lt1, c_m1, z_sub1, z_sub, nI_1, nI_add, pk_mul, Option.bind_some, if_true, if_false, ite_true, ite_false, l_2, l_3, l_4, l_5, l_6, l_7, l_8, l_9, l_10, l_11, l_12, l_13, l_15, l_16, l_20, l_23, l_24, l_30, l_32, l_40, l_41, l_48, l_50, l_57, l_59, l_60, l_61, l_99, l_100, l_104, l_109, l_112, l_115, l_116, l_119, l_126, l_127, l_128, l_129, l_130, l_131, l_132, l_177, l_192, l_240, l_312, l_999, l_1000, l_9999, z_inr, v2, d2, m2, x2, p3, s2, e5, e1]
