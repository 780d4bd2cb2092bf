/-! the reference remembers how it is -/
theorem sI_rI (σ : Mem) (a k : Nat) (v : Int32) (f : Rw) : sI (rI σ a f) a k v = rI σ a (upd f k v) := by unfold sI; rw [rI_rI, mI_rI_self]
theorem Model_remember_L52 {σ : Mem} {n : Nat} (hn : n ≤ 39) (h : mI σ 565 44 = nI n) : loopF f_Model_remember_L52 FU (σ, (0 : Int32)) = some (sI (rI σ 583 fun j => if 312 * n ≤ j ∧ j < 312 * n + 312 then mI σ 578 (j - 312 * n) else mI σ 583 j) 565 44 (nI (n + 1))) := by
  have key := loopF_count (step := f_Model_remember_L52) (fun i => (rI σ 583 fun j => if 312 * n ≤ j ∧ j < 312 * n + i then mI σ 578 (j - 312 * n) else mI σ 583 j, nI i)) (sI (rI σ 583 fun j => if 312 * n ≤ j ∧ j < 312 * n + 312 then mI σ 578 (j - 312 * n) else mI σ 583 j) 565 44 (nI (n + 1))) 312 0 (fun j _ hj => ?_) ?_ FU (by unfold FU; omega)
  · have e : (rI σ 583 fun j => if 312 * n ≤ j ∧ j < 312 * n + 0 then mI σ 578 (j - 312 * n) else mI σ 583 j) = σ := by
      have : (fun j => if 312 * n ≤ j ∧ j < 312 * n + 0 then mI σ 578 (j - 312 * n) else mI σ 583 j) = mI σ 583 := by funext j; rw [if_neg (by omega)]
      rw [this, rI_self]
    rw [e] at key
    exact key
  · unfold f_Model_remember_L52
    have e1 : (312 : Int32) * nI n + nI j = nI (312 * n + j) := by rw [show (312 : Int32) = nI 312 from rfl, pk_mul, nI_add]
    have e44 : ∀ f, mI (rI σ 583 f) 565 44 = nI n := fun f => by rw [rowr_ne (by omega)]; exact h
    have e578 : ∀ f, mI (rI σ 583 f) 578 = mI σ 578 := fun f => rowr_ne (by omega)
    simp only [show ¬ (312 : Int32) ≤ nI j from nI_ge (b := 312) (by omega) (by omega), if_false, e44, e1, inb_nI (show j < 312 by omega) (show 312 < 2 ^ 31 by decide), inb_nI (show 312 * n + j < 12480 by omega) (show 12480 < 2 ^ 31 by decide), if_true, e578, nI_clamp (show j < 2 ^ 31 by omega), nI_clamp (show 312 * n + j < 2 ^ 31 by omega), nI_1, sI_rI]
    congr 4
    funext k
    rw [upd_at]
    by_cases hk : k = 312 * n + j
    · rw [if_pos hk, if_pos (by omega), hk]
      congr 1; omega
    · rw [if_neg hk]
      by_cases hk2 : 312 * n ≤ k ∧ k < 312 * n + j
      · rw [if_pos hk2, if_pos (by omega)]
      · rw [if_neg hk2, if_neg (by omega)]
  · unfold f_Model_remember_L52
    have e44 : ∀ f, mI (rI σ 583 f) 565 44 = nI n := fun f => by rw [rowr_ne (by omega)]; exact h
    simp only [show (312 : Int32) ≤ nI (0 + 312) by decide, if_true, e44, nI_1]
theorem Model_remember_L11 {σ : Mem} : loopF f_Model_remember_L11 FU (σ, (0 : Int32)) = some (rI σ 583 fun j => if j < 12168 then mI σ 583 (j + 312) else mI σ 583 j) := by
  have key := loopF_count (step := f_Model_remember_L11) (fun i => (rI σ 583 fun j => if j < i then mI σ 583 (j + 312) else mI σ 583 j, nI i)) (rI σ 583 fun j => if j < 12168 then mI σ 583 (j + 312) else mI σ 583 j) 12168 0 (fun j _ hj => ?_) ?_ FU (by unfold FU; omega)
  · have e : (rI σ 583 fun j => if j < 0 then mI σ 583 (j + 312) else mI σ 583 j) = σ := by
      have : (fun j => if j < 0 then mI σ 583 (j + 312) else mI σ 583 j) = mI σ 583 := by funext j; rw [if_neg (by omega)]
      rw [this, rI_self]
    rw [e] at key
    exact key
  · unfold f_Model_remember_L11
    have e1 : nI j + (312 : Int32) = nI (j + 312) := nI_addc _ 312
    simp only [show ¬ (12168 : Int32) ≤ nI j from nI_ge (b := 12168) (by omega) (by omega), if_false, e1, inb_nI (show j < 12480 by omega) (show 12480 < 2 ^ 31 by decide), inb_nI (show j + 312 < 12480 by omega) (show 12480 < 2 ^ 31 by decide), if_true, rowr_self, nI_clamp (show j < 2 ^ 31 by omega), nI_clamp (show j + 312 < 2 ^ 31 by omega), nI_1, sI_rI]
    congr 4
    funext k
    rw [upd_at]
    by_cases hk : k = j
    · rw [if_pos hk, if_neg (by omega), if_pos (by omega), hk]
    · rw [if_neg hk]
      by_cases hk2 : k < j
      · rw [if_pos hk2, if_pos (by omega)]
      · rw [if_neg hk2, if_neg (by omega)]
  · unfold f_Model_remember_L11
    simp only [show (12168 : Int32) ≤ nI (0 + 12168) by decide, if_true]
theorem MRel.his {σ σ' : Mem} {A : Gh} {x : Nat × (Nat → Rw)} (hA : gOk A) (hM : MRel σ A) (h1 : ∀ c, c ≠ 583 → c ≠ 565 → mI σ' c = mI σ c) (h2 : ∀ k, k ≠ 44 → mI σ' 565 k = mI σ 565 k) (hL : mL σ' = mL σ) (hR : mR σ' = mR σ) (hh : MHis σ' x) : MRel σ' (sH A x) ∧ EqLo σ σ' := by
  have t8 := hA.T8
  have b6 := hA.B6
  obtain ⟨q1, q2, q3, q4, q5, ⟨q6, q6'⟩, q7, q8, q9, q10⟩ := hM
  refine ⟨⟨?_, ⟨(h2 7 (by omega)).trans q2.1, (h2 35 (by omega)).trans q2.2.1, q2.2.2.fr (h1 _ (by omega) (by omega)) (h1 _ (by omega) (by omega)) (by rw [hL]) (h1 _ (by omega) (by omega))⟩, ?_, ?_, q5.fr0 q6 q6' t8 b6 (fun k hk => h2 k (by omega)) (fun a ha => h1 a (by omega) (by omega)), ⟨by rw [h2 39 (by omega)]; exact q6, by rw [h2 41 (by omega)]; exact q6'⟩, by rw [h1 578 (by omega) (by omega)]; exact q7, ?_, hh, ?_⟩, fun c hc => ⟨h1 c (by omega) (by omega), by rw [hL], by rw [hR]⟩⟩
  · show MTape σ' (gT A); unfold MTape; rw [h2 6 (by omega), h1 566 (by omega) (by omega)]; exact q1
  · show MDay σ' (gD A); unfold MDay; rw [h2 30 (by omega), h1 577 (by omega) (by omega), h1 576 (by omega) (by omega)]; exact q3
  · show MMisc σ' (gM A); unfold MMisc; rw [h2 36 (by omega), h1 580 (by omega) (by omega)]; exact q4
  · show MImg σ' (gI A); unfold MImg; rw [h2 56 (by omega), h1 589 (by omega) (by omega)]; exact q8
  · show MSee σ' (gS A); unfold MSee; rw [h2 51 (by omega), h1 585 (by omega) (by omega)]; exact q10
theorem Model_remember {σ : Mem} {A : Gh} (hA : gOk A) (hM : MRel σ A) : ∃ σ', f_Model_remember σ = some σ' ∧ MRel σ' (sH A (hpush (gH A) (gW A))) ∧ EqLo σ σ' := by
  have h40 := hA.2.2.2.2.2.2.2.1
  have hh := hM.2.2.2.2.2.2.2.2.1
  have hw := hM.w
  unfold f_Model_remember
  by_cases q : (gH A).1 = 40
  · rw [hh.1, if_pos (show nI (gH A).1 = (40 : Int32) by rw [q]; rfl), Model_remember_L11, Option.bind_some, rowr_ne (by omega), hh.1, q, show nI 40 - (1 : Int32) = nI 39 from rfl, Model_remember_L52 (n := 39) (by omega) (by rw [row_sI, upd_self])]
    refine ⟨_, rfl, hM.his hA (fun c c1 c2 => by rw [row_ne c2, rowr_ne c1, row_ne c2, rowr_ne c1]) (fun k hk => by rw [row_sI, upd_ne hk, rowr_ne (by omega), row_sI, upd_ne hk, rowr_ne (by omega)]) rfl rfl ?_⟩
    unfold hpush
    rw [if_pos q]
    refine ⟨by rw [row_sI, upd_self], fun j hj i hi => ?_⟩
    have hj : j < 40 := hj
    rw [row_ne (by omega), rowr_self]
    show (if _ then _ else _) = (if j < 39 then _ else _ : Rw) i
    by_cases q2 : j < 39
    · rw [if_pos q2, if_neg (by omega), row_ne (by omega), rowr_self, if_pos (by omega), show 312 * j + i + 312 = 312 * (j + 1) + i by omega, hh.2 (j + 1) (by omega) i hi]
    · rw [if_neg q2, if_pos (by omega), row_ne (by omega), rowr_ne (by omega), hw, show 312 * j + i - 312 * 39 = i by omega]
  · rw [hh.1, if_neg (show ¬ nI (gH A).1 = (40 : Int32) from fun e => q (nI_inj6 (b := 40) (by omega) (by omega) e)), Model_remember_L52 (by omega) hh.1]
    refine ⟨_, rfl, hM.his hA (fun c c1 c2 => by rw [row_ne c2, rowr_ne c1]) (fun k hk => by rw [row_sI, upd_ne hk, rowr_ne (by omega)]) rfl rfl ?_⟩
    unfold hpush
    rw [if_neg q]
    refine ⟨by rw [row_sI, upd_self], fun j hj i hi => ?_⟩
    have hj : j < (gH A).1 + 1 := hj
    rw [row_ne (by omega), rowr_self]
    show (if _ then _ else _) = (if j = (gH A).1 then _ else _ : Rw) i
    by_cases q2 : j = (gH A).1
    · rw [if_pos q2, if_pos (by omega), hw, show 312 * j + i - 312 * (gH A).1 = i by omega]
    · rw [if_neg q2, if_neg (by omega)]
      exact hh.2 j (by omega) i hi
/-! what is refused -/
def stU (m : Rw × Int32) (r : Nat) : Rw × Int32 := (fun k => if k = r then m.1 k + 1 else m.1 k, m.2)
theorem gOk_M {A : Gh} {x : Rw × Int32} (hA : gOk A) : gOk (sM A x) := hA
theorem Game_refused {σ : Mem} {A : Gh} {r : Nat} (hA : gOk A) (hC : CRel σ A) (hr : r < 6) : f_Game_refused σ (nI r) = some (1, sI σ 5 r (mI σ 5 r + 1)) ∧ CRel (sI σ 5 r (mI σ 5 r + 1)) (sM A (stU (gM A) r)) ∧ EqHi σ (sI σ 5 r (mI σ 5 r + 1)) := by
  have l4 := hA.2.1.1
  have d4 := hA.2.2.1.1
  refine ⟨by unfold f_Game_refused; simp (disch := omega) only [Nat.add_sub_cancel, z_in, z_cl, c_le_t, c_le_f, c_lt_t, c_lt_f, c_eq_t, c_eq_f, c_le0_t, c_le0_f, c_0le, c_lt0, c_0lt, c_eq0_f, c_eq1_f, c_eq0_t, c_eq1_t, c_1le, c_lt1, c_m1, z_sub1, z_sub, nI_1, nI_add, pk_mul, Option.bind_some, if_true, if_false, ite_true, ite_false, l_2, l_3, l_4, l_5, l_6, l_7, l_8, l_9, l_10, l_11, l_12, l_13, l_15, l_16, l_20, l_23, l_24, l_30, l_32, l_40, l_41, l_48, l_50, l_57, l_59, l_60, l_61, l_99, l_100, l_104, l_109, l_112, l_115, l_116, l_119, l_126, l_127, l_128, l_129, l_130, l_131, l_132, l_177, l_192, l_240, l_312, l_999, l_1000, l_9999], ?_, fun a ha => ⟨row_ne (by omega), rfl, rfl⟩⟩
  obtain ⟨h1, h2, h3, h4, h5, h6, h7, h8, h9, h10⟩ := hC
  have cc := h6.c
  have kk : ∀ c, c ≠ 5 → mI (sI σ 5 r (mI σ 5 r + 1)) c = mI σ c := fun c hc => row_ne hc
  have g0 := kk 0 (by omega)
  refine ⟨h1.fr (by rw [kk 1 (by omega)]) (kk 2 (by omega)), h2.fr (by rw [g0]) (by rw [g0]) (fun i hi => ⟨kk _ (by omega), kk _ (by omega)⟩) rfl, h3.fr (by rw [g0]) (fun i hi => ⟨kk _ (by omega), kk _ (by omega)⟩), ⟨fun k hk => ?_, by rw [g0]; exact h4.2⟩, h5.fr4 rfl fun k hk => kk _ (by omega), h6, h7.fr fun a q1 q2 => kk a (by omega), h8.fr (by rw [g0]) fun a q1 q2 => kk a (by omega), h9.fr fun a q1 q2 => kk a (by omega), h10.fr (by rw [kk 516 (by omega)]) (kk 527 (by omega)) (kk 528 (by omega)) (kk 529 (by omega))⟩
  rw [row_sI, upd_at]
  show _ = if k = r then (gM A).1 k + 1 else (gM A).1 k
  by_cases q : k = r
  · rw [if_pos q, if_pos q, q, h4.1 r hr]
  · rw [if_neg q, if_neg q, h4.1 k hk]
theorem Game_ref_m1 {σ : Mem} : f_Game_refused σ (-1) = some (0, σ) := by unfold f_Game_refused; rw [if_pos (by decide)]
theorem Model_refused {σ : Mem} {A : Gh} {r : Nat} (hA : gOk A) (hM : MRel σ A) (hr : r < 6) : f_Model_refused σ (nI r) = some (-1, sI σ 580 r (mI σ 580 r + 1)) ∧ MRel (sI σ 580 r (mI σ 580 r + 1)) (sM A (stU (gM A) r)) ∧ EqLo σ (sI σ 580 r (mI σ 580 r + 1)) := by
  have t8 := hA.T8
  have b6 := hA.B6
  refine ⟨by unfold f_Model_refused; simp (disch := omega) only [Nat.add_sub_cancel, z_in, z_cl, c_le_t, c_le_f, c_lt_t, c_lt_f, c_eq_t, c_eq_f, c_le0_t, c_le0_f, c_0le, c_lt0, c_0lt, c_eq0_f, c_eq1_f, c_eq0_t, c_eq1_t, c_1le, c_lt1, c_m1, z_sub1, z_sub, nI_1, nI_add, pk_mul, Option.bind_some, if_true, if_false, ite_true, ite_false, l_2, l_3, l_4, l_5, l_6, l_7, l_8, l_9, l_10, l_11, l_12, l_13, l_15, l_16, l_20, l_23, l_24, l_30, l_32, l_40, l_41, l_48, l_50, l_57, l_59, l_60, l_61, l_99, l_100, l_104, l_109, l_112, l_115, l_116, l_119, l_126, l_127, l_128, l_129, l_130, l_131, l_132, l_177, l_192, l_240, l_312, l_999, l_1000, l_9999], ?_, fun a ha => ⟨row_ne (by omega), rfl, rfl⟩⟩
  obtain ⟨q1, q2, q3, q4, q5, ⟨q6, q6'⟩, q7, q8, q9, q10⟩ := hM
  have kk : ∀ c, c ≠ 580 → mI (sI σ 580 r (mI σ 580 r + 1)) c = mI σ c := fun c hc => row_ne hc
  have g5 := kk 565 (by omega)
  refine ⟨?_, ⟨by rw [g5]; exact q2.1, by rw [g5]; exact q2.2.1, q2.2.2.fr (kk _ (by omega)) (kk _ (by omega)) rfl (kk _ (by omega))⟩, ?_, ⟨fun k hk => ?_, by rw [g5]; exact q4.2⟩, q5.fr0 q6 q6' t8 b6 (fun k hk => by rw [g5]) (fun a ha => kk a (by omega)), by rw [g5]; exact ⟨q6, q6'⟩, by rw [kk 578 (by omega)]; exact q7, ?_, ?_, ?_⟩
  · show MTape _ (gT A); unfold MTape; rw [g5, kk 566 (by omega)]; exact q1
  · show MDay _ (gD A); unfold MDay; rw [g5, kk 577 (by omega), kk 576 (by omega)]; exact q3
  · rw [row_sI, upd_at]
    show _ = if k = r then (gM A).1 k + 1 else (gM A).1 k
    by_cases q : k = r
    · rw [if_pos q, if_pos q, q, q4.1 r hr]
    · rw [if_neg q, if_neg q, q4.1 k hk]
  · show MImg _ (gI A); unfold MImg; rw [g5, kk 589 (by omega)]; exact q8
  · show MHis _ (gH A); unfold MHis; rw [g5, kk 583 (by omega)]; exact q9
  · show MSee _ (gS A); unfold MSee; rw [g5, kk 585 (by omega)]; exact q10
