/-! tempted, end, law -/
theorem EqLo.trans0 {σ σ' : Mem} {A : Gh} (hM : MRel σ A) (h : EqLo (sI σ 565 0 0) σ') : EqLo σ σ' := (SM_0 (v := 0) hM).2.2.2.2.2.trans h
theorem sim_tempted (x : Int32) : Sim (fun σ => f_Game_tempted σ x) (fun σ => f_Model_tempted σ x) := fun A hA => by
  have t8 := hA.T8
  have b6 := hA.B6
  have l4 := hA.2.1.1
  have d4 := hA.2.2.1.1
  have e9 : (9 : Int64) = lN 9 := rfl
  have mq : ∀ σ, MRel σ A → f_Model_tempted σ x = if isR 0 9 x = 0 then some (0, sI σ 565 0 0) else if x = (gM A).2 then some (0, sI σ 565 0 0) else some (1, sI (sI σ 565 0 0) 565 36 x) := fun σ hM => by
    unfold f_Model_tempted
    rw [l0, e9, Model_isInR (by omega) (by omega), Option.bind_some, (hM.z (v := 0) hA).2.2.2.1.2]
  have cq : ∀ σ, CRel σ A → f_Game_tempted σ x = if x < 0 then some (0, σ) else if 9 < x then some (0, σ) else if x = (gM A).2 then some (0, σ) else some (1, sI σ 0 15 x) := fun σ hC => by
    unfold f_Game_tempted
    rw [hC.2.2.2.1.2]
  have no : (∀ σ, CRel σ A → f_Game_tempted σ x = some (0, σ)) → (∀ σ, MRel σ A → f_Model_tempted σ x = some (0, sI σ 565 0 0)) → ∃ r A', gOk A' ∧ (∀ σ, CRel σ A → ∃ σ', (fun σ => f_Game_tempted σ x) σ = some (r, σ') ∧ CRel σ' A' ∧ EqHi σ σ') ∧ (∀ σ, MRel σ A → ∃ σ', (fun σ => f_Model_tempted σ x) σ = some (r, σ') ∧ MRel σ' A' ∧ EqLo σ σ') := fun h1 h2 =>
    ⟨0, A, hA, fun σ hC => ⟨σ, h1 σ hC, hC, EqHi.refl _⟩, fun σ hM => ⟨_, h2 σ hM, hM.z hA, EqLo.trans0 hM (EqLo.refl _)⟩⟩
  rcases rng0 9 x (by omega) with ⟨r1, r2⟩ | ⟨r1, r2, r3⟩ | ⟨r1, j, j1, rfl⟩
  · exact no (fun σ hC => by rw [cq σ hC, if_pos r1]) (fun σ hM => by rw [mq σ hM, if_pos r2])
  · exact no (fun σ hC => by rw [cq σ hC, if_neg r1, if_pos (show (9 : Int32) < x from r2)]) (fun σ hM => by rw [mq σ hM, if_pos r3])
  · have nr : ¬ isR 0 9 (nI j) = 0 := by rw [r1]; decide
    have n0 : ¬ nI j < (0 : Int32) := nI_pos (by omega)
    have n9 : ¬ (9 : Int32) < nI j := nI_nlt (a := 9) (by omega) (by omega)
    by_cases q : nI j = (gM A).2
    · exact no (fun σ hC => by rw [cq σ hC, if_neg n0, if_neg n9, if_pos q]) (fun σ hM => by rw [mq σ hM, if_neg nr, if_pos q])
    · refine ⟨1, sM A ((gM A).1, nI j), gOk_M hA, fun σ hC => ⟨_, by show f_Game_tempted σ (nI j) = _; rw [cq σ hC, if_neg n0, if_neg n9, if_neg q], ?_, fun a ha => ⟨row_ne (by omega), rfl, rfl⟩⟩, fun σ hM => ⟨_, by show f_Model_tempted σ (nI j) = _; rw [mq σ hM, if_neg nr, if_neg q], ?_, EqLo.trans0 hM fun a ha => ⟨row_ne (by omega), rfl, rfl⟩⟩⟩
      · obtain ⟨h1, h2, h3, h4, h5, h6, h7, h8, h9, h10⟩ := hC
        have cc := h6.c
        have kk : ∀ c, c ≠ 0 → mI (sI σ 0 15 (nI j)) c = mI σ c := fun c hc => row_ne hc
        have k0 : ∀ k, k ≠ 15 → mI (sI σ 0 15 (nI j)) 0 k = mI σ 0 k := fun k hk => by rw [row_sI, upd_ne hk]
        exact ⟨h1.fr (by rw [kk 1 (by omega)]) (kk 2 (by omega)), h2.fr (k0 _ (by omega)) (k0 _ (by omega)) (fun i hi => ⟨kk _ (by omega), kk _ (by omega)⟩) rfl, h3.fr (k0 _ (by omega)) (fun i hi => ⟨kk _ (by omega), kk _ (by omega)⟩), ⟨fun k hk => by rw [kk 5 (by omega)]; exact h4.1 k hk, by rw [row_sI, upd_self]; rfl⟩, h5.fr4 rfl fun k hk => kk _ (by omega), h6, h7.fr fun a q1 q2 => kk a (by omega), h8.fr (k0 _ (by omega)) fun a q1 q2 => kk a (by omega), h9.fr fun a q1 q2 => kk a (by omega), h10.fr (by rw [kk 516 (by omega)]) (kk 527 (by omega)) (kk 528 (by omega)) (kk 529 (by omega))⟩
      · obtain ⟨q1, q2, q3, q4, q5, ⟨q6, q6'⟩, q7, q8, q9, q10⟩ := hM.z (v := 0) hA
        have kk : ∀ c, c ≠ 565 → mI (sI (sI σ 565 0 0) 565 36 (nI j)) c = mI (sI σ 565 0 0) c := fun c hc => row_ne hc
        have k5 : ∀ k, k ≠ 36 → mI (sI (sI σ 565 0 0) 565 36 (nI j)) 565 k = mI (sI σ 565 0 0) 565 k := fun k hk => by rw [row_sI _ _ 36, upd_ne hk]
        refine ⟨?_, ⟨by rw [k5 _ (by omega)]; exact q2.1, by rw [k5 _ (by omega)]; exact q2.2.1, q2.2.2.fr (kk _ (by omega)) (kk _ (by omega)) rfl (kk _ (by omega))⟩, ?_, ⟨fun k hk => by rw [kk 580 (by omega)]; exact q4.1 k hk, by rw [row_sI _ _ 36, upd_self]; rfl⟩, q5.fr0 q6 q6' t8 b6 (fun k hk => k5 k (by omega)) (fun a ha => kk a (by omega)), by rw [k5 39 (by omega), k5 41 (by omega)]; exact ⟨q6, q6'⟩, by rw [kk 578 (by omega)]; exact q7, ?_, ?_, ?_⟩
        · show MTape _ (gT A); unfold MTape; rw [k5 6 (by omega), kk 566 (by omega)]; exact q1
        · show MDay _ (gD A); unfold MDay; rw [k5 30 (by omega), kk 577 (by omega), kk 576 (by omega)]; exact q3
        · show MImg _ (gI A); unfold MImg; rw [k5 56 (by omega), kk 589 (by omega)]; exact q8
        · show MHis _ (gH A); unfold MHis; rw [k5 44 (by omega), kk 583 (by omega)]; exact q9
        · show MSee _ (gS A); unfold MSee; rw [k5 51 (by omega), kk 585 (by omega)]; exact q10
/-- the tape changed, in the class -/
theorem CRel.tape {σ σ' : Mem} {A : Gh} {t : gTt} (hA : gOk A) (hC : CRel σ A) (kk : ∀ c, c ≠ 1 → c ≠ 2 → mI σ' c = mI σ c) (hL : mL σ' = mL σ) (hR : mR σ' = mR σ) (ht : CTape σ' t) : CRel σ' (sT A t) ∧ EqHi σ σ' := by
  have l4 := hA.2.1.1
  have d4 := hA.2.2.1.1
  obtain ⟨h1, h2, h3, h4, h5, h6, h7, h8, h9, h10⟩ := hC
  have cc := h6.c
  have g0 := kk 0 (by omega) (by omega)
  exact ⟨⟨ht, h2.fr (by rw [g0]) (by rw [g0]) (fun i hi => ⟨kk _ (by omega) (by omega), kk _ (by omega) (by omega)⟩) (by rw [hR]), h3.fr (by rw [g0]) (fun i hi => ⟨kk _ (by omega) (by omega), kk _ (by omega) (by omega)⟩), h4.fr (by rw [g0]) (kk 5 (by omega) (by omega)), h5.fr4 (by rw [hR]) fun k hk => kk _ (by omega) (by omega), by unfold CDra; rw [hR]; exact h6, h7.fr fun a q1 q2 => kk a (by omega) (by omega), h8.fr (by rw [g0]) fun a q1 q2 => kk a (by omega) (by omega), h9.fr fun a q1 q2 => kk a (by omega) (by omega), h10.fr (by rw [kk 516 (by omega) (by omega)]) (kk 527 (by omega) (by omega)) (kk 528 (by omega) (by omega)) (kk 529 (by omega) (by omega))⟩, fun a ha => ⟨kk a (by omega) (by omega), by rw [hL], by rw [hR]⟩⟩
theorem MRel.tape {σ σ' : Mem} {A : Gh} {t : gTt} (hA : gOk A) (hM : MRel σ A) (kk : ∀ c, c ≠ 565 → c ≠ 566 → mI σ' c = mI σ c) (k5 : ∀ k, k ≠ 6 → mI σ' 565 k = mI σ 565 k) (hL : mL σ' = mL σ) (hR : mR σ' = mR σ) (ht : MTape σ' t) : MRel σ' (sT A t) ∧ EqLo σ σ' := by
  have t8 := hA.T8
  have b6 := hA.B6
  obtain ⟨q1, q2, q3, q4, q5, ⟨q6, q6'⟩, q7, q8, q9, q10⟩ := hM
  refine ⟨⟨ht, ⟨by rw [k5 _ (by omega)]; exact q2.1, by rw [k5 _ (by omega)]; exact q2.2.1, q2.2.2.fr (kk _ (by omega) (by omega)) (kk _ (by omega) (by omega)) (by rw [hL]) (kk _ (by omega) (by omega))⟩, ?_, ⟨fun k hk => by rw [kk 580 (by omega) (by omega)]; exact q4.1 k hk, by rw [k5 _ (by omega)]; exact q4.2⟩, q5.fr0 q6 q6' t8 b6 (fun k hk => k5 k (by omega)) (fun a ha => kk a (by omega) (by omega)), by rw [k5 39 (by omega), k5 41 (by omega)]; exact ⟨q6, q6'⟩, by rw [kk 578 (by omega) (by omega)]; exact q7, ?_, ?_, ?_⟩, fun a ha => ⟨kk a (by omega) (by omega), by rw [hL], by rw [hR]⟩⟩
  · show MDay _ (gD A); unfold MDay; rw [k5 30 (by omega), kk 577 (by omega) (by omega), kk 576 (by omega) (by omega)]; exact q3
  · show MImg _ (gI A); unfold MImg; rw [k5 56 (by omega), kk 589 (by omega) (by omega)]; exact q8
  · show MHis _ (gH A); unfold MHis; rw [k5 44 (by omega), kk 583 (by omega) (by omega)]; exact q9
  · show MSee _ (gS A); unfold MSee; rw [k5 51 (by omega), kk 585 (by omega) (by omega)]; exact q10
theorem gOk_T {A : Gh} {t : gTt} (hA : gOk A) (ht : okT t) : gOk (sT A t) := ⟨ht, hA.2⟩
theorem sim_end (x : Int32) : Sim (fun σ => f_Game_end σ x) (fun σ => f_Model_end σ x) := fun A hA => by
  have t1 := hA.1.1
  have no : (∀ σ, CRel σ A → f_Game_end σ x = some (0, σ)) → (∀ σ, MRel σ A → f_Model_end σ x = some (0, sI σ 565 0 0)) → ∃ r A', gOk A' ∧ (∀ σ, CRel σ A → ∃ σ', (fun σ => f_Game_end σ x) σ = some (r, σ') ∧ CRel σ' A' ∧ EqHi σ σ') ∧ (∀ σ, MRel σ A → ∃ σ', (fun σ => f_Model_end σ x) σ = some (r, σ') ∧ MRel σ' A' ∧ EqLo σ σ') := fun h1 h2 =>
    ⟨0, A, hA, fun σ hC => ⟨σ, h1 σ hC, hC, EqHi.refl _⟩, fun σ hM => ⟨_, h2 σ hM, hM.z hA, EqLo.trans0 hM (EqLo.refl _)⟩⟩
  have cq : ∀ σ, CRel σ A → f_Game_end σ x = if x < 0 then some (0, σ) else if x ≤ nI (gT A).1 then some (1, sI σ 1 1 x) else some (0, σ) := fun σ hC => by unfold f_Game_end; rw [hC.1.1]
  have mq : ∀ σ, MRel σ A → f_Model_end σ x = if x < 0 then some (0, sI σ 565 0 0) else if x ≤ nI (gT A).1 then some (1, sI (sI σ 565 0 0) 565 6 x) else some (0, sI σ 565 0 0) := fun σ hM => by unfold f_Model_end; rw [(hM.z (v := 0) hA).1.1]
  by_cases q : x < 0
  · exact no (fun σ hC => by rw [cq σ hC, if_pos q]) (fun σ hM => by rw [mq σ hM, if_pos q])
  · by_cases q2 : x ≤ nI (gT A).1
    · obtain ⟨j, j1, rfl⟩ := nI_of q
      have j2 := le_of_nI j1 (by omega) q2
      refine ⟨1, sT A (j, (gT A).2), gOk_T hA ⟨by show j ≤ 240; omega, fun i hi => hA.1.2 i (by have : i < j := hi; omega)⟩, fun σ hC => ?_, fun σ hM => ?_⟩
      · obtain ⟨g1, g2⟩ := hC.tape (σ' := sI σ 1 1 (nI j)) (t := (j, (gT A).2)) hA (fun c c1 c2 => row_ne c1) rfl rfl ⟨by rw [row_sI, upd_self], fun i hi => by rw [row_ne (by omega)]; exact hC.1.2 i (by have : i < j := hi; omega)⟩
        exact ⟨_, by show f_Game_end σ (nI j) = _; rw [cq σ hC, if_neg q, if_pos q2], g1, g2⟩
      · have hz := hM.z (v := 0) hA
        obtain ⟨g1, g2⟩ := hz.tape (σ' := sI (sI σ 565 0 0) 565 6 (nI j)) (t := (j, (gT A).2)) hA (fun c c1 c2 => row_ne c1) (fun k hk => by rw [row_sI _ _ 6, upd_ne hk]) rfl rfl ⟨by rw [row_sI, upd_self], fun i hi => by rw [row_ne (by omega)]; exact hz.1.2 i (by have : i < j := hi; omega)⟩
        exact ⟨_, by show f_Model_end σ (nI j) = _; rw [mq σ hM, if_neg q, if_pos q2], g1, EqLo.trans0 hM g2⟩
    · exact no (fun σ hC => by rw [cq σ hC, if_neg q, if_neg q2]) (fun σ hM => by rw [mq σ hM, if_neg q, if_neg q2])
/-! the law that holds -/
def sLw (A : Gh) (l : gLt) : Gh := (gT A, l, gD A, gM A, ((gK A).1, cR (gK A), cW (gK A), cF (gK A), lkN l.2.1 l.2.2, cV (gK A), cD (gK A)), gW A, gI A, gH A, gS A)
theorem ra3 (i : Nat) : ra 3 i = 540 + 3 * i := by unfold ra; rw [if_pos rfl]
theorem gOk_L {A : Gh} {l : gLt} (hA : gOk A) (hl : okLw l) : gOk (sLw A l) := ⟨hA.1, hl, hA.2.2.1, rfl, hA.2.2.2.2⟩
/-- class and reference, but for their laws -/
theorem CRel.law {σ σ' : Mem} {A : Gh} {l : gLt} (hA : gOk A) (hC : CRel σ A) (kk : ∀ c, c ≠ 0 → mI σ' c = mI σ c) (k0 : ∀ k, k ≠ 13 → mI σ' 0 k = mI σ 0 k) (hL : mL σ' = mL σ) (hR : ∀ c k, (c ≠ 428 ∨ k ≠ 2) → mR σ' c k = mR σ c k) (hl : CLaw σ' l) : CRel σ' (sLw A l) ∧ EqHi σ σ' := by
  have l4 := hA.2.1.1
  have d4 := hA.2.2.1.1
  obtain ⟨h1, h2, h3, h4, h5, h6, h7, h8, h9, h10⟩ := hC
  have cc := h6.c
  exact ⟨⟨h1.fr (by rw [kk 1 (by omega)]) (kk 2 (by omega)), hl, h3.fr (k0 _ (by omega)) (fun i hi => ⟨kk _ (by omega), kk _ (by omega)⟩), h4.fr (k0 _ (by omega)) (kk 5 (by omega)), h5.fr4 (hR _ _ (by omega)) fun k hk => kk _ (by omega), by unfold CDra; rw [hR 0 11 (by omega), hR 428 1 (by omega)]; exact h6, h7.fr fun a q1 q2 => kk a (by omega), h8.fr (k0 _ (by omega)) fun a q1 q2 => kk a (by omega), h9.fr fun a q1 q2 => kk a (by omega), h10.fr (by rw [kk 516 (by omega)]) (kk 527 (by omega)) (kk 528 (by omega)) (kk 529 (by omega))⟩, fun a ha => ⟨kk a (by omega), by rw [hL], funext fun k => hR a k (by omega)⟩⟩
theorem MRel.law {σ σ' : Mem} {A : Gh} {l : gLt} (hA : gOk A) (hM : MRel σ A) (kk : ∀ c, c ≠ 565 → mI σ' c = mI σ c) (k5 : ∀ k, k ≠ 35 → mI σ' 565 k = mI σ 565 k) (hL : mL σ' = mL σ) (hR : mR σ' = mR σ) (hl : MLaw σ' l) : MRel σ' (sLw A l) ∧ EqLo σ σ' := by
  have t8 := hA.T8
  have b6 := hA.B6
  obtain ⟨q1, q2, q3, q4, q5, ⟨q6, q6'⟩, q7, q8, q9, q10⟩ := hM
  refine ⟨⟨?_, hl, ?_, ⟨fun k hk => by rw [kk 580 (by omega)]; exact q4.1 k hk, by rw [k5 _ (by omega)]; exact q4.2⟩, q5.fr0 q6 q6' t8 b6 (fun k hk => k5 k (by omega)) (fun a ha => kk a (by omega)), by rw [k5 39 (by omega), k5 41 (by omega)]; exact ⟨q6, q6'⟩, by rw [kk 578 (by omega)]; exact q7, ?_, ?_, ?_⟩, fun a ha => ⟨kk a (by omega), by rw [hL], by rw [hR]⟩⟩
  · show MTape _ (gT A); unfold MTape; rw [k5 6 (by omega), kk 566 (by omega)]; exact q1
  · show MDay _ (gD A); unfold MDay; rw [k5 30 (by omega), kk 577 (by omega), kk 576 (by omega)]; exact q3
  · show MImg _ (gI A); unfold MImg; rw [k5 56 (by omega), kk 589 (by omega)]; exact q8
  · show MHis _ (gH A); unfold MHis; rw [k5 44 (by omega), kk 583 (by omega)]; exact q9
  · show MSee _ (gS A); unfold MSee; rw [k5 51 (by omega), kk 585 (by omega)]; exact q10
