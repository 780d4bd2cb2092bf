/-! back, undo, seen -/
/-- the first 312 numbers of v, then those of u -/
def mxS (v u : Rw) : Rw := fun i => if i < 312 then v i else u i
theorem mxS_lo {v u : Rw} {i : Nat} (h : i < 312) : mxS v u i = v i := by unfold mxS; rw [if_pos h]
theorem rwOk_mx {K : Cy} {v u : Rw} (hT : cT K ≤ 8) (hB : cB K ≤ 6) (h : rwOk K v) : rwOk K (mxS v u) := ⟨h.1.congr hT hB fun i hi => mxS_lo (by omega), by rw [mxS_lo (by omega)]; exact h.2.1, by unfold TrOk; rw [mxS_lo (by omega)]; exact h.2.2⟩
theorem RS_mx {σ : Mem} {o : Nat} {K : Cy} {v u : Rw} (hT : cT K ≤ 8) (hB : cB K ≤ 6) (h : rwOk K v) (hr : RS σ o K v) : RS σ o K (mxS v u) := hr.congr hT hB h.m fun i hi => mxS_lo (by omega)
theorem RG_mx {σ : Mem} {o : Nat} {v u : Rw} (hg : RG σ o v) : RG σ o (mxS v u) := by
  obtain ⟨⟨n, n1, n2⟩, q2, q3⟩ := hg
  have e : mxS v u 131 = nI n := (mxS_lo (by omega)).trans n2
  refine ⟨⟨n, n1, e⟩, by rw [e, q2, n2], fun i hi => ?_⟩
  rw [lnS_eq n1 e] at hi
  rw [mxS_lo (by omega)]
  exact q3 i (by rw [lnS_eq n1 n2]; exact hi)
theorem gOk_WH {A : Gh} {w : Rw} {x : Nat × (Nat → Rw)} (hA : gOk A) (h : hasC A) (hw : rwOk (gK A) w) (h1 : x.1 ≤ 40) (h2 : ∀ j, j < x.1 → rwOk (gK A) (x.2 j)) : gOk (sH (sW A w) x) := (gOk_H (gOk_W hA h hw) (hasC_W h hw) h1 h2).1
/-- the present and the history changed, in the class -/
theorem CRel.wh {σ σ' : Mem} {A : Gh} {w : Rw} {x : Nat × (Nat → Rw)} (hA : gOk A) (hC : CRel σ A) (hr : RS σ' 6 (gK A) w) (hg : RG σ' 6 w) (kk : ∀ c, ¬ (6 ≤ c ∧ c < 16) → c ≠ 26 → mI σ' c = mI σ c) (hL : mL σ' = mL σ) (hR : mR σ' = mR σ) (hh : CHis σ' (gK A) x) : CRel σ' (sH (sW A w) x) ∧ EqHi σ σ' := by
  have l4 := hA.2.1.1
  have d4 := hA.2.2.1.1
  obtain ⟨h1, h2, h3, h4, h5, h6, h7, h8, h9, h10⟩ := hC
  have cc := h6.c
  have g0 := kk 0 (by omega) (by omega)
  exact ⟨⟨h1.fr (by rw [kk 1 (by omega) (by omega)]) (kk 2 (by omega) (by omega)), h2.fr (by rw [g0]) (by rw [g0]) (fun i hi => ⟨kk _ (by omega) (by omega), kk _ (by omega) (by omega)⟩) (by rw [hR]), h3.fr (by rw [g0]) (fun i hi => ⟨kk _ (by omega) (by omega), kk _ (by omega) (by omega)⟩), h4.fr (by rw [g0]) (kk 5 (by omega) (by omega)), h5.fr4 (by rw [hR]) fun k hk => kk _ (by omega) (by omega), by unfold CDra; rw [hR]; exact h6, ⟨⟨hr.2.2.2.2.2.1.1, hg.2.1, hr.2.2.2.2.2.1.2.1, hr.2.2.2.2.2.1.2.2.2.1, hr.2.2.2.2.2.1.2.2.2.2⟩, fun _ => ⟨hr, hg⟩⟩, h8.fr (by rw [g0]) fun a q1 q2 => kk a (by omega) (by omega), hh, h10.fr (by rw [kk 516 (by omega) (by omega)]) (kk 527 (by omega) (by omega)) (kk 528 (by omega) (by omega)) (kk 529 (by omega) (by omega))⟩, fun a ha => ⟨kk a (by omega) (by omega), by rw [hL], by rw [hR]⟩⟩
theorem MRel.wh {σ σ' : Mem} {A : Gh} {w : Rw} {x : Nat × (Nat → Rw)} (hA : gOk A) (hM : MRel σ A) (hw : mI σ' 578 = w) (kk : ∀ c, c ≠ 565 → c ≠ 578 → mI σ' c = mI σ c) (k5 : ∀ k, k ≠ 44 → mI σ' 565 k = mI σ 565 k) (hL : mL σ' = mL σ) (hR : mR σ' = mR σ) (hh : MHis σ' x) : MRel σ' (sH (sW A w) x) ∧ EqLo σ σ' := by
  have t8 := hA.T8
  have b6 := hA.B6
  obtain ⟨q1, q2, q3, q4, q5, ⟨q6, q6'⟩, q7, q8, q9, q10⟩ := hM
  refine ⟨⟨?_, ⟨by rw [k5 _ (by omega)]; exact q2.1, by rw [k5 _ (by omega)]; exact q2.2.1, q2.2.2.fr (kk _ (by omega) (by omega)) (kk _ (by omega) (by omega)) (by rw [hL]) (kk _ (by omega) (by omega))⟩, ?_, ⟨fun k hk => by rw [kk 580 (by omega) (by omega)]; exact q4.1 k hk, by rw [k5 _ (by omega)]; exact q4.2⟩, q5.fr0 q6 q6' t8 b6 (fun k hk => k5 k (by omega)) (fun a ha => kk a (by omega) (by omega)), by rw [k5 39 (by omega), k5 41 (by omega)]; exact ⟨q6, q6'⟩, hw, ?_, hh, ?_⟩, fun a ha => ⟨kk a (by omega) (by omega), by rw [hL], by rw [hR]⟩⟩
  · show MTape _ (gT A); unfold MTape; rw [k5 6 (by omega), kk 566 (by omega) (by omega)]; exact q1
  · show MDay _ (gD A); unfold MDay; rw [k5 30 (by omega), kk 577 (by omega) (by omega), kk 576 (by omega) (by omega)]; exact q3
  · show MImg _ (gI A); unfold MImg; rw [k5 56 (by omega), kk 589 (by omega) (by omega)]; exact q8
  · show MSee _ (gS A); unfold MSee; rw [k5 51 (by omega), kk 585 (by omega) (by omega)]; exact q10
theorem sim_back : Sim f_Game_back f_Model_back := fun A hA => by
  have t8 := hA.T8
  have b6 := hA.B6
  have l130 : (130 : Int32).toNatClampNeg = 130 := by decide
  rcases hA.2.2.2.2.2.2.1 with p | p
  · refine ⟨-1, A, hA, fun σ hC => ⟨σ, ?_, hC, EqHi.refl _⟩, fun σ hM => ⟨_, ?_, hM.z hA, EqLo.trans0 hM (EqLo.refl _)⟩⟩
    · unfold f_Game_back; rw [hC.2.2.2.2.2.2.2.1.1, if_pos p]
    · unfold f_Model_back; rw [(hM.z (v := 0) hA).2.2.2.2.2.2.2.1.1, if_pos p]
  · have hc : hasC A := by
      rcases hA.cs with q | q
      · rw [q.2.2.2.1] at p; exact absurd p (by decide)
      · exact q
    have hi := hc.2.2.2.2.1 p
    refine ⟨(gI A).2 130, sH (sW A (mxS (gI A).2 (gW A))) (0, (gH A).2), gOk_WH hA hc (rwOk_mx t8 b6 hi) (by show 0 ≤ 40; omega) (fun j hj => absurd hj (Nat.not_lt_zero j)), fun σ hC => ?_, fun σ hM => ?_⟩
    · obtain ⟨hr, hg⟩ := hC.2.2.2.2.2.2.2.1.2 p
      obtain ⟨σ1, g1, g2, g3, g4, g5, g6, g7⟩ := State_copyFrom (o := 6) (p := 16) (by omega) t8 b6 hr hi.1
      have r6 : RS (sI (sI σ1 26 1 0) 26 2 0) 6 (gK A) (gI A).2 ∧ RG (sI (sI σ1 26 1 0) 26 2 0) 6 (gI A).2 := RS_RG_fr ⟨g2, g3 hg⟩ fun a a1 a2 => by rw [row_ne (by omega), row_ne (by omega)]
      obtain ⟨k1, k2⟩ := hC.wh (σ' := sI (sI σ1 26 1 0) 26 2 0) (w := mxS (gI A).2 (gW A)) (x := (0, (gH A).2)) hA (RS_mx t8 b6 hi r6.1) (RG_mx r6.2) (fun c c1 c2 => by rw [row_ne c2, row_ne c2]; exact g4 c (by omega)) g5 g6 ⟨by rw [row_sI, upd_self]; rfl, 0, by omega, by rw [row_sI, upd_ne (by omega), row_sI, upd_self]; rfl, fun j hj => absurd hj (Nat.not_lt_zero j)⟩
      refine ⟨_, ?_, k1, k2⟩
      unfold f_Game_back f_History_forget
      rw [hC.2.2.2.2.2.2.2.1.1, if_neg (by rw [p]; decide), g1, Option.bind_some, Option.bind_some, r6.1.2.2.2.2.2.1.2.2.2.2]
    · have hz := hM.z (v := 0) hA
      have himg := hz.2.2.2.2.2.2.2.1.2 p
      have key := loopF_count (step := f_Model_back_L16) (fun i => (rI (sI σ 565 0 0) 578 fun j => if j < i then (gI A).2 j else gW A j, nI i)) ((gI A).2 130, sI (rI (sI σ 565 0 0) 578 fun j => if j < 312 then (gI A).2 j else gW A j) 565 44 0) 312 0 (fun j _ hj => by
        unfold f_Model_back_L16
        simp only [show ¬ (312 : Int32) ≤ nI j from nI_ge (b := 312) (by omega) (by omega), if_false, inb_nI (show j < 312 by omega) (show 312 < 2 ^ 31 by decide), if_true, nI_clamp (show j < 2 ^ 31 by omega), nI_1, rowr_ne (show (589 : Nat) ≠ 578 by omega), sI_rI, himg j (by omega)]
        congr 4
        funext k
        rw [upd_at]
        by_cases hk : k = j
        · rw [if_pos hk, if_pos (by omega), hk]
        · rw [if_neg hk]
          by_cases hk2 : k < j
          · rw [if_pos hk2, if_pos (by omega)]
          · rw [if_neg hk2, if_neg (by omega)]) (by
        unfold f_Model_back_L16
        simp only [show (312 : Int32) ≤ nI (0 + 312) by decide, if_true, row_ne (show (578 : Nat) ≠ 565 by omega), l130, rowr_self, Nat.zero_add]
        rfl) FU (by unfold FU; omega)
      have e0 : (rI (sI σ 565 0 0) 578 fun j => if j < 0 then (gI A).2 j else gW A j) = sI σ 565 0 0 := by
        have : (fun j => if j < 0 then (gI A).2 j else gW A j) = mI (sI σ 565 0 0) 578 := by funext j; rw [if_neg (by omega), hz.w]
        rw [this, rI_self]
      rw [e0] at key
      obtain ⟨k1, k2⟩ := hz.wh (σ' := sI (rI (sI σ 565 0 0) 578 fun j => if j < 312 then (gI A).2 j else gW A j) 565 44 0) (w := mxS (gI A).2 (gW A)) (x := (0, (gH A).2)) hA (by rw [row_ne (by omega), rowr_self]; rfl) (fun c c1 c2 => by rw [row_ne c1, rowr_ne c2]) (fun k hk => by rw [row_sI _ _ 44, upd_ne hk, rowr_ne (by omega)]) rfl rfl ⟨by rw [row_sI _ _ 44, upd_self]; rfl, fun j hj => absurd hj (Nat.not_lt_zero j)⟩
      refine ⟨_, ?_, k1, EqLo.trans0 hM k2⟩
      unfold f_Model_back
      rw [hz.2.2.2.2.2.2.2.1.1, if_neg (by rw [p]; decide)]
      exact key
theorem sim_undo : Sim f_Game_undo f_Model_undo := fun A hA => by
  have t8 := hA.T8
  have b6 := hA.B6
  have h40 := hA.2.2.2.2.2.2.2.1
  by_cases p : (gH A).1 = 0
  · refine ⟨-1, A, hA, fun σ hC => ⟨σ, ?_, hC, EqHi.refl _⟩, fun σ hM => ⟨_, ?_, hM.z hA, EqLo.trans0 hM (EqLo.refl _)⟩⟩
    · unfold f_Game_undo; rw [hC.2.2.2.2.2.2.2.2.1.1, p, if_pos (show nI 0 = (0 : Int32) from rfl)]
    · unfold f_Model_undo; rw [(hM.z (v := 0) hA).2.2.2.2.2.2.2.2.1.1, p, if_pos (show nI 0 = (0 : Int32) from rfl)]
  · have hc : hasC A := by
      rcases hA.cs with q | q
      · exact absurd q.2.2.1 p
      · exact q
    obtain ⟨n, hn⟩ : ∃ n, (gH A).1 = n + 1 := ⟨(gH A).1 - 1, by omega⟩
    have hi := hc.2.2.2.2.2.1 n (by omega)
    refine ⟨nI n, sH (sW A (mxS ((gH A).2 n) (gW A))) (n, (gH A).2), gOk_WH hA hc (rwOk_mx t8 b6 hi) (by show n ≤ 40; omega) (fun j hj => hc.2.2.2.2.2.1 j (by have : j < n := hj; omega)), fun σ hC => ?_, fun σ hM => ?_⟩
    · obtain ⟨h9, f, f1, f2, f3⟩ := hC.2.2.2.2.2.2.2.2.1
      have hz : ∀ a, 28 ≤ a → mI (sI σ 26 2 (nI n)) a = mI σ a := fun a ha => row_ne (by omega)
      obtain ⟨hr, hg⟩ := RS_RG_fr (σ' := sI σ 26 2 (nI n)) (f3 n (by omega)) fun a a1 a2 => hz a (by omega)
      have hm : (f + n) % 40 < 40 := Nat.mod_lt _ (by omega)
      obtain ⟨σ1, g1, g2, g3, g4, g5, g6, g7⟩ := State_copyFrom (o := 6) (p := 28 + 10 * ((f + n) % 40)) (by omega) t8 b6 hr hi.1
      have hix : (nI f + nI n) - (nI f + nI n) / (40 : Int32) * (40 : Int32) = nI ((f + n) % 40) := by
        rw [nI_add, show (40 : Int32) = nI 40 from rfl, pk_rem (by omega) (by omega) (by omega)]
      obtain ⟨k1, k2⟩ := hC.wh (σ' := σ1) (w := mxS ((gH A).2 n) (gW A)) (x := (n, (gH A).2)) hA (RS_mx t8 b6 hi g2) (RG_mx (g3 hg)) (fun c c1 c2 => by rw [g4 c (by omega), row_ne c2]) (by rw [g5]; rfl) (by rw [g6]; rfl) ⟨by rw [g4 26 (by omega), row_sI, upd_self], f, f1, by rw [g4 26 (by omega), row_sI, upd_ne (by omega), f2], fun j hj => RS_RG_fr (f3 j (by have : j < n := hj; omega)) fun a a1 a2 => by rw [g4 a (by omega), hz a (by omega)]⟩
      refine ⟨σ1, ?_, k1, k2⟩
      unfold f_Game_undo f_History_restore
      rw [h9, hn, if_neg (nI_ne0 (by omega) (by omega)), if_neg (nI_nle (by omega) (by omega)), show nI (n + 1) - (1 : Int32) = nI n from nI_pred n, row_sI, upd_self, upd_ne (by omega), f2, hix, if_pos (inb_nI hm (by omega)), nI_clamp (by omega), ra27, g1, Option.bind_some, Option.bind_some, g4 26 (by omega), row_sI, upd_self]
    · have hz := hM.z (v := 0) hA
      have hh := hz.2.2.2.2.2.2.2.2.1
      have hrow : ∀ i, i < 312 → mI (sI σ 565 0 0) 583 (312 * n + i) = (gH A).2 n i := fun i hi => hh.2 n (by omega) i hi
      have e44 : ∀ f, mI (rI (sI (sI σ 565 0 0) 565 44 (nI n)) 578 f) 565 44 = nI n := fun f => by rw [rowr_ne (by omega), row_sI _ _ 44, upd_self]
      have key := loopF_count (step := f_Model_undo_L26) (fun i => (rI (sI (sI σ 565 0 0) 565 44 (nI n)) 578 fun j => if j < i then (gH A).2 n j else gW A j, nI i)) (nI n, rI (sI (sI σ 565 0 0) 565 44 (nI n)) 578 fun j => if j < 312 then (gH A).2 n j else gW A j) 312 0 (fun j _ hj => by
        unfold f_Model_undo_L26
        have e1 : (312 : Int32) * nI n + nI j = nI (312 * n + j) := by rw [show (312 : Int32) = nI 312 from rfl, pk_mul, nI_add]
        simp only [show ¬ (312 : Int32) ≤ nI j from nI_ge (b := 312) (by omega) (by omega), if_false, e44, e1, inb_nI (show j < 312 by omega) (show 312 < 2 ^ 31 by decide), inb_nI (show 312 * n + j < 12480 by omega) (show 12480 < 2 ^ 31 by decide), if_true, nI_clamp (show j < 2 ^ 31 by omega), nI_clamp (show 312 * n + j < 2 ^ 31 by omega), nI_1, rowr_ne (show (583 : Nat) ≠ 578 by omega), row_ne (show (583 : Nat) ≠ 565 by omega), sI_rI]
        rw [show mI σ 583 (312 * n + j) = (gH A).2 n j by rw [← hrow j (by omega), row_ne (by omega)]]
        congr 4
        funext k
        rw [upd_at]
        by_cases hk : k = j
        · rw [if_pos hk, if_pos (by omega), hk]
        · rw [if_neg hk]
          by_cases hk2 : k < j
          · rw [if_pos hk2, if_pos (by omega)]
          · rw [if_neg hk2, if_neg (by omega)]) (by
        unfold f_Model_undo_L26
        simp only [show (312 : Int32) ≤ nI (0 + 312) by decide, if_true, e44, Nat.zero_add]) FU (by unfold FU; omega)
      have e0 : (rI (sI (sI σ 565 0 0) 565 44 (nI n)) 578 fun j => if j < 0 then (gH A).2 n j else gW A j) = sI (sI σ 565 0 0) 565 44 (nI n) := by
        have : (fun j => if j < 0 then (gH A).2 n j else gW A j) = mI (sI (sI σ 565 0 0) 565 44 (nI n)) 578 := by funext j; rw [if_neg (by omega), row_ne (by omega), hz.w]
        rw [this, rI_self]
      rw [e0] at key
      obtain ⟨k1, k2⟩ := hz.wh (σ' := rI (sI (sI σ 565 0 0) 565 44 (nI n)) 578 fun j => if j < 312 then (gH A).2 n j else gW A j) (w := mxS ((gH A).2 n) (gW A)) (x := (n, (gH A).2)) hA (by rw [rowr_self]; rfl) (fun c c1 c2 => by rw [rowr_ne c2, row_ne c1]) (fun k hk => by rw [rowr_ne (by omega), row_sI _ _ 44, upd_ne hk]) rfl rfl ⟨e44 _, fun j hj i hi => by rw [rowr_ne (by omega), row_ne (by omega)]; exact hh.2 j (by have : j < n := hj; omega) i hi⟩
      refine ⟨_, ?_, k1, EqLo.trans0 hM k2⟩
      unfold f_Model_undo
      rw [hh.1, hn, if_neg (nI_ne0 (by omega) (by omega)), show nI (n + 1) - (1 : Int32) = nI n from nI_pred n]
      exact key
