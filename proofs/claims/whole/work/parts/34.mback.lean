/-! the reference: a row is written -/
def MR (I : Mem → Prop) (a : Nat) (σ : Mem) (w : Rw) (σ' : Mem) : Prop := mI σ' a = w ∧ MX a σ σ' ∧ I σ'
theorem MR.refl {I : Mem → Prop} {a : Nat} {σ : Mem} (h : I σ) : MR I a σ (mI σ a) σ := ⟨rfl, MX.refl _ _, h⟩
theorem MR.up {I : Mem → Prop} {lk : Int32 → Int32 → Int32 → Int32 → Int32 → Int32 → Int32} (hI : LkM I lk) {a : Nat} {σ σ1 : Mem} {w : Rw} {k : Nat} {v : Int32} (ha : a = 578 ∨ a = 579) (h : MR I a σ w σ1) : MR I a σ (upd w k v) (sI σ1 a k v) :=
  ⟨by rw [row_sI, h.1], h.2.1.trans (MX_sI (by omega)), I_sI hI h.2.2 ha⟩
theorem MR.trans {I : Mem → Prop} {a : Nat} {σ σ1 σ2 : Mem} {w w2 : Rw} (h : MR I a σ w σ1) (g : MR I a σ1 w2 σ2) : MR I a σ w2 σ2 := ⟨g.1, h.2.1.trans g.2.1, g.2.2⟩
theorem exL {α β : Type} {x : α} {A : α → Prop} {P : β → Prop} (h : A x) : ∃ r, (some (Sum.inl x) : Option (α ⊕ β)) = some r ∧ Sum.elim A P r := ⟨_, rfl, h⟩
theorem exR {α β : Type} {x : β} {A : α → Prop} {P : β → Prop} (h : P x) : ∃ r, (some (Sum.inr x) : Option (α ⊕ β)) = some r ∧ Sum.elim A P r := ⟨_, rfl, h⟩
/-- a loop of at most N steps more -/
theorem loopF_go {α β : Type} {step : α → Option (α ⊕ β)} (I : Nat → α → Prop) (P : β → Prop) (N : Nat) {a : α} (h0 : I 0 a) (hN : N < 20000) (hs : ∀ i a, i ≤ N → I i a → ∃ r, step a = some r ∧ Sum.elim (fun b => i < N ∧ I (i + 1) b) P r) : ∃ b, loopF step FU a = some b ∧ P b :=
  loopF_fu I P N h0 hN fun i a hi h => by
    obtain ⟨r, h1, h2⟩ := hs i a hi h
    cases r with
    | inl b => exact Or.inl ⟨h2.1, b, h1, h2.2⟩
    | inr b => exact Or.inr ⟨b, h1, h2⟩
theorem Model_strikes {I : Mem → Prop} {lk : Int32 → Int32 → Int32 → Int32 → Int32 → Int32 → Int32} (hI : LkM I lk) {σ : Mem} {a k n : Nat} (ha : a = 578 ∨ a = 579) (hi : I σ) (hn : n ≤ 24) (hm : mI σ a 126 = nI n) (hk : k < n) : ∃ σ', f_Model_strikes σ a (nI k) = some σ' ∧ MR I a σ (stS (mI σ a) k n) σ' := by
  have hln := ln_row ha
  unfold f_Model_strikes
  simp (disch := omega) only [Nat.add_sub_cancel, z_in, z_cl, c_le_t, c_le_f, c_lt_t, c_lt_f, c_eq_t, c_eq_f, c_le0_t, c_le0_f, c_0le, c_lt0, c_0lt, c_eq0_f, c_eq1_f, c_eq0_t, c_eq1_t, c_1le, c_lt1, c_m1, z_sub1, z_sub, nI_1, nI_add, pk_mul, Option.bind_some, if_true, if_false, ite_true, ite_false, l_2, l_3, l_4, l_5, l_6, l_7, l_8, l_9, l_10, l_11, l_12, l_13, l_15, l_16, l_20, l_23, l_24, l_30, l_32, l_40, l_41, l_48, l_50, l_57, l_59, l_60, l_61, l_99, l_100, l_104, l_109, l_112, l_115, l_116, l_119, l_126, l_127, l_128, l_129, l_130, l_131, l_132, l_177, l_192, l_240, l_312, l_999, l_1000, l_9999]
  refine loopF_go (fun i (s : Mem × Int32) => s.2 = nI (30 + 4 * k + i) ∧ MR I a σ (fun j => if 30 + 4 * k ≤ j ∧ j < 30 + 4 * k + i then mI σ a (j + 4) else mI σ a j) s.1) _ (4 * (n - 1 - k)) ⟨rfl, ?_⟩ (by omega) ?_
  · have e : (fun j => if 30 + 4 * k ≤ j ∧ j < 30 + 4 * k + 0 then mI σ a (j + 4) else mI σ a j) = mI σ a := by funext j; rw [if_neg (by omega)]
    rw [e]; exact MR.refl hi
  · rintro i ⟨τ, z⟩ hiN ⟨hz, hr⟩
    simp only at hz hr
    subst hz
    have e126 : mI τ a 126 = nI n := by rw [hr.1]; simp only [show ¬ (30 + 4 * k ≤ 126 ∧ 126 < 30 + 4 * k + i) by omega, if_false]; exact hm
    unfold f_Model_strikes_L7
    by_cases hlt : i < 4 * (n - 1 - k)
    · simp (disch := omega) only [Nat.add_sub_cancel, z_in, z_cl, c_le_t, c_le_f, c_lt_t, c_lt_f, c_eq_t, c_eq_f, c_le0_t, c_le0_f, c_0le, c_lt0, c_0lt, c_eq0_f, c_eq1_f, c_eq0_t, c_eq1_t, c_1le, c_lt1, c_m1, z_sub1, z_sub, nI_1, nI_add, pk_mul, Option.bind_some, if_true, if_false, ite_true, ite_false, l_2, l_3, l_4, l_5, l_6, l_7, l_8, l_9, l_10, l_11, l_12, l_13, l_15, l_16, l_20, l_23, l_24, l_30, l_32, l_40, l_41, l_48, l_50, l_57, l_59, l_60, l_61, l_99, l_100, l_104, l_109, l_112, l_115, l_116, l_119, l_126, l_127, l_128, l_129, l_130, l_131, l_132, l_177, l_192, l_240, l_312, l_999, l_1000, l_9999, z_inr, e126]
      refine exL ⟨hlt, rfl, ?_⟩
      · have := hr.up hI (k := 30 + 4 * k + i) (v := mI τ a (30 + 4 * k + i + 4)) ha
        refine ⟨?_, this.2⟩
        rw [this.1]
        funext j
        rw [upd_at, hr.1]
        by_cases hj : j = 30 + 4 * k + i
        · subst hj
          rw [if_pos rfl]
          dsimp only
          rw [if_neg (by omega), if_pos (by omega)]
        · rw [if_neg hj]
          by_cases hj2 : 30 + 4 * k ≤ j ∧ j < 30 + 4 * k + i
          · rw [if_pos hj2, if_pos (by omega)]
          · rw [if_neg hj2, if_neg (by omega)]
    · simp (disch := omega) only [Nat.add_sub_cancel, z_in, z_cl, c_le_t, c_le_f, c_lt_t, c_lt_f, c_eq_t, c_eq_f, c_le0_t, c_le0_f, c_0le, c_lt0, c_0lt, c_eq0_f, c_eq1_f, c_eq0_t, c_eq1_t, c_1le, c_lt1, c_m1, z_sub1, z_sub, nI_1, nI_add, pk_mul, Option.bind_some, if_true, if_false, ite_true, ite_false, l_2, l_3, l_4, l_5, l_6, l_7, l_8, l_9, l_10, l_11, l_12, l_13, l_15, l_16, l_20, l_23, l_24, l_30, l_32, l_40, l_41, l_48, l_50, l_57, l_59, l_60, l_61, l_99, l_100, l_104, l_109, l_112, l_115, l_116, l_119, l_126, l_127, l_128, l_129, l_130, l_131, l_132, l_177, l_192, l_240, l_312, l_999, l_1000, l_9999, z_inr, e126]
      refine exR ?_
      · have := hr.up hI (k := 126) (v := nI (n - 1)) ha
        refine ⟨?_, this.2⟩
        rw [this.1]
        funext j
        unfold stS
        rw [upd_at]
        by_cases hj : j = 126
        · subst hj
          rw [if_pos rfl, if_neg (by omega), if_pos rfl]
        · rw [if_neg hj, if_neg hj]
          by_cases hj2 : 30 + 4 * k ≤ j ∧ j < 30 + 4 * k + i
          · rw [if_pos hj2, if_pos (by omega)]
          · rw [if_neg hj2, if_neg (by omega)]
theorem Model_has {σ : Mem} {x y : Int32} : f_Model_has σ x y = some (if ((x >>> (y &&& 31)) &&& (1 : Int32)) = (1 : Int32) then 1 else 0) := by
  unfold f_Model_has
  by_cases h : ((x >>> (y &&& 31)) &&& (1 : Int32)) = (1 : Int32)
  · rw [if_pos h, if_pos h]
  · rw [if_neg h, if_neg h]
theorem Model_goesBack_J73 {I : Mem → Prop} {lk : Int32 → Int32 → Int32 → Int32 → Int32 → Int32 → Int32} (hI : LkM I lk) {σ : Mem} {a b t n : Nat} {due : Int32} (ha : a = 578 ∨ a = 579) (hi : I σ) (hn : n ≤ 23) (hm : mI σ a 126 = nI n) : ∃ σ', f_Model_goesBack_J73 σ a (nI b) (nI t) due = some (due, σ') ∧ MR I a σ (adS (mI σ a) n b t due) σ' := by
  have hln := ln_row ha
  unfold f_Model_goesBack_J73
  simp (disch := omega) only [Nat.add_sub_cancel, z_in, z_cl, c_le_t, c_le_f, c_lt_t, c_lt_f, c_eq_t, c_eq_f, c_le0_t, c_le0_f, c_0le, c_lt0, c_0lt, c_eq0_f, c_eq1_f, c_eq0_t, c_eq1_t, c_1le, c_lt1, c_m1, z_sub1, z_sub, nI_1, nI_add, pk_mul, Option.bind_some, if_true, if_false, ite_true, ite_false, l_2, l_3, l_4, l_5, l_6, l_7, l_8, l_9, l_10, l_11, l_12, l_13, l_15, l_16, l_20, l_23, l_24, l_30, l_32, l_40, l_41, l_48, l_50, l_57, l_59, l_60, l_61, l_99, l_100, l_104, l_109, l_112, l_115, l_116, l_119, l_126, l_127, l_128, l_129, l_130, l_131, l_132, l_177, l_192, l_240, l_312, l_999, l_1000, l_9999, z_inr, hm, row_sI, upd_ne]
  refine ⟨_, rfl, ?_⟩
  unfold adS
  exact (((((MR.refl hi).up hI ha).up hI ha).up hI ha).up hI ha).up hI ha
theorem Model_goesBack {I : Mem → Prop} {K : Cy} {σ : Mem} {a b t N : Nat} (hI : LkM I (cL K)) (hK : CyOk K) (h : MK σ K) (ha : a = 578 ∨ a = 579) (hi : I σ) (hw : Wf (cT K) (cB K) N (mI σ a)) (hb : b < cB K) (hh : holdS (mI σ a) (cT K) (nI b) = nI t) (ht8 : t < 8) : ∃ σ', f_Model_goesBack σ a (nI b) = some (bdS K (mI σ a) b t, σ') ∧ MR I a σ (baS K (mI σ a) b t) σ' := by
  have hln := ln_row ha
  have h8 := hK.1
  have h6 := hK.2.1
  obtain ⟨ht, -, -⟩ := holdS_is h8 (by omega) hh
  have hn : a ≠ 572 ∧ a ≠ 574 := by omega
  have r1 : MR I a σ (drS (mI σ a) t) (sI (sI σ a t (-1)) a (16 + t) 0) := ((MR.refl hi).up hI ha).up hI ha
  have hd := Model_dueFor (σ := sI (sI σ a t (-1)) a (16 + t) 0) (a := a) (b := b) (t := t) hln (by omega) (by omega)
  rw [r1.1, row_ne hn.1.symm, row_ne hn.1.symm, row_ne hn.2.symm, row_ne hn.2.symm, h.2.2.2.1, h.2.2.2.2.1, drS_at (by omega) (by omega)] at hd
  unfold f_Model_goesBack
  rw [Model_holds hln h.1 h8, hh]
  simp (disch := omega) only [Nat.add_sub_cancel, z_in, z_cl, c_le_t, c_le_f, c_lt_t, c_lt_f, c_eq_t, c_eq_f, c_le0_t, c_le0_f, c_0le, c_lt0, c_0lt, c_eq0_f, c_eq1_f, c_eq0_t, c_eq1_t, c_1le, c_lt1, c_m1, z_sub1, z_sub, nI_1, nI_add, pk_mul, Option.bind_some, if_true, if_false, ite_true, ite_false, l_2, l_3, l_4, l_5, l_6, l_7, l_8, l_9, l_10, l_11, l_12, l_13, l_15, l_16, l_20, l_23, l_24, l_30, l_32, l_40, l_41, l_48, l_50, l_57, l_59, l_60, l_61, l_99, l_100, l_104, l_109, l_112, l_115, l_116, l_119, l_126, l_127, l_128, l_129, l_130, l_131, l_132, l_177, l_192, l_240, l_312, l_999, l_1000, l_9999, z_inr, r1.1, row_ne hn.1.symm, h.2.2.2.1, Model_has, hd]
  rw [drS_at (by omega) (by omega)]
  unfold baS bdS
  by_cases hc : ((mI σ a 128 >>> (cW K (3 * t + 2) &&& 31)) &&& (1 : Int32)) = (1 : Int32)
  · simp only [hc, if_true, show ¬ ((1 : Int32) = 0) by decide, if_false]
    exact ⟨_, rfl, r1⟩
  · simp only [hc, if_false, if_true]
    show ∃ σ', (if duS K (mI σ a) b t = 0 then _ else _) = _ ∧ _
    by_cases h0 : duS K (mI σ a) b t = 0
    · simp only [h0, if_true]
      exact ⟨_, rfl, r1⟩
    · simp only [h0, if_false]
      obtain ⟨n, n1, n2, -⟩ := hw.1
      have e126 : drS (mI σ a) t 126 = nI n := (drS_at (by omega) (by omega)).trans n2
      unfold wrS
      rw [mny_eq n1 e126, e126]
      by_cases h24 : n = 24
      · subst h24
        simp only [if_true]
        obtain ⟨σ2, e2, r2⟩ := Model_strikes hI (σ := sI (sI σ a t (-1)) a (16 + t) 0) (k := 0) ha r1.2.2 n1 (by rw [r1.1]; exact e126) (by omega)
        rw [r1.1] at r2
        have e3 : f_Model_strikes (sI (sI σ a t (-1)) a (16 + t) 0) a 0 = some σ2 := e2
        obtain ⟨σ3, e4, r3⟩ := Model_goesBack_J73 hI (σ := σ2) (a := a) (b := b) (t := t) (n := 23) (due := duS K (mI σ a) b t) ha r2.2.2 (by omega) (by rw [r2.1]; exact stS_n (by omega))
        rw [r2.1] at r3
        rw [e3, Option.bind_some, show dueF (cW K (3 * t)) (mI σ a 127) (cF K (4 * b + 3)) = duS K (mI σ a) b t from rfl, e4]
        exact ⟨_, rfl, (r1.trans r2).trans r3⟩
      · rw [if_neg h24, if_neg (show ¬ nI n = nI 24 from fun q => h24 (nI_inj6 (by omega) (by omega) q))]
        obtain ⟨σ3, e4, r3⟩ := Model_goesBack_J73 hI (σ := sI (sI σ a t (-1)) a (16 + t) 0) (a := a) (b := b) (t := t) (n := n) (due := duS K (mI σ a) b t) ha r1.2.2 (by omega) (by rw [r1.1]; exact e126)
        rw [r1.1] at r3
        rw [show dueF (cW K (3 * t)) (mI σ a 127) (cF K (4 * b + 3)) = duS K (mI σ a) b t from rfl, e4]
        exact ⟨_, rfl, r1.trans r3⟩
