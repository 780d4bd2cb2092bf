/-! law; image, back, undo -/
theorem m1_lt (n : Nat) (h : n < 2 ^ 31) : (-1 : Int32) < nI n := by
  rw [Int32.lt_iff_toInt_lt, nI_toInt h, show (-1 : Int32).toInt = -1 from rfl]
  omega
theorem sim_law (x : Int32) : Sim (fun σ => f_Game_law σ x) (fun σ => f_Model_law σ x) := fun A hA => by
  have l4 := hA.2.1.1
  have no : (∀ σ, CRel σ A → f_Game_law σ x = some (0, σ)) → (∀ σ, MRel σ A → f_Model_law σ x = some (0, sI σ 565 0 0)) → ∃ r A', gOk A' ∧ (∀ σ, CRel σ A → ∃ σ', (fun σ => f_Game_law σ x) σ = some (r, σ') ∧ CRel σ' A' ∧ EqHi σ σ') ∧ (∀ σ, MRel σ A → ∃ σ', (fun σ => f_Model_law σ x) σ = some (r, σ') ∧ MRel σ' A' ∧ EqLo σ σ') := fun h1 h2 =>
    ⟨0, A, hA, fun σ hC => ⟨σ, h1 σ hC, hC, EqHi.refl _⟩, fun σ hM => ⟨_, h2 σ hM, hM.z hA, EqLo.trans0 hM (EqLo.refl _)⟩⟩
  have cq : ∀ σ, CRel σ A → f_Game_law σ x = if x < -1 then some (0, σ) else if x < nI (gL A).1 then (if x = -1 then some (1, sR (sI σ 0 13 x) 428 2 0) else if inb x 5 then some (1, sR (sI σ 0 13 x) 428 2 (ra 3 x.toNatClampNeg)) else none) else some (0, σ) := fun σ hC => by unfold f_Game_law; rw [hC.2.1.1]
  have mq : ∀ σ, MRel σ A → f_Model_law σ x = if x = -1 then some (1, sI (sI σ 565 0 0) 565 35 x) else (f_Model_isIn (sI σ 565 0 0) x.toInt64 0 (nI (gL A).1 - 1).toInt64).bind fun q2 => if q2 = 0 then some (0, sI σ 565 0 0) else some (1, sI (sI σ 565 0 0) 565 35 x) := fun σ hM => by unfold f_Model_law; rw [(hM.z (v := 0) hA).2.1.1]
  have go : ∀ lh v, (∀ σ, CRel σ A → f_Game_law σ x = some (1, sR (sI σ 0 13 lh) 428 2 v)) → (∀ σ, MRel σ A → f_Model_law σ x = some (1, sI (sI σ 565 0 0) 565 35 lh)) → ((lh = -1 ∧ v = 0) ∨ ∃ i, i < (gL A).1 ∧ lh = nI i ∧ v = 540 + 3 * i) → ∃ r A', gOk A' ∧ (∀ σ, CRel σ A → ∃ σ', (fun σ => f_Game_law σ x) σ = some (r, σ') ∧ CRel σ' A' ∧ EqHi σ σ') ∧ (∀ σ, MRel σ A → ∃ σ', (fun σ => f_Model_law σ x) σ = some (r, σ') ∧ MRel σ' A' ∧ EqLo σ σ') := fun lh v h1 h2 h3 => by
    refine ⟨1, sLw A ((gL A).1, (gL A).2.1, lh), gOk_L hA ⟨l4, ?_⟩, fun σ hC => ?_, fun σ hM => ?_⟩
    · rcases h3 with ⟨q, -⟩ | ⟨i, q1, q2, -⟩
      · exact Or.inl q
      · exact Or.inr ⟨i, q1, q2⟩
    · have cc : ∀ i, i < (gL A).1 → CodeC σ i ((gL A).2.1 i) → CodeC (sR (sI σ 0 13 lh) 428 2 v) i ((gL A).2.1 i) := fun i hi q τ t1 t2 => q τ (by rw [t1, mI_sR, row_ne (by omega)]) (by rw [t2, mI_sR, row_ne (by omega)])
      obtain ⟨g1, g2⟩ := hC.law (σ' := sR (sI σ 0 13 lh) 428 2 v) (l := ((gL A).1, (gL A).2.1, lh)) hA (fun c hc => by rw [mI_sR, row_ne hc]) (fun k hk => by rw [mI_sR, row_sI, upd_ne hk]) rfl (fun c k hck => by rw [mR_sR, if_neg (by omega)]; rfl) ⟨by rw [mI_sR, row_sI, upd_ne (by omega)]; exact hC.2.1.1, by rw [mI_sR, row_sI, upd_self], fun i hi => cc i hi (hC.2.1.2.2.1 i hi), by
        have e : mR (sR (sI σ 0 13 lh) 428 2 v) 428 2 = v := by rw [mR_sR, if_pos ⟨rfl, rfl⟩]
        rcases h3 with ⟨q1, q2⟩ | ⟨i, q1, q2, q3⟩
        · exact Or.inl ⟨q1, e.trans q2⟩
        · exact Or.inr ⟨i, q1, q2, e.trans q3, cc i q1 (hC.2.1.2.2.1 i q1)⟩⟩
      exact ⟨_, h1 σ hC, g1, g2⟩
    · have hz := hM.z (v := 0) hA
      obtain ⟨g1, g2⟩ := hz.law (σ' := sI (sI σ 565 0 0) 565 35 lh) (l := ((gL A).1, (gL A).2.1, lh)) hA (fun c hc => row_ne hc) (fun k hk => by rw [row_sI _ _ 35, upd_ne hk]) rfl rfl ⟨by rw [row_sI _ _ 35, upd_ne (by omega)]; exact hz.2.1.1, by rw [row_sI _ _ 35, upd_self], hz.t.fr (row_ne (by omega)) (row_ne (by omega)) rfl (row_ne (by omega))⟩
      exact ⟨_, h2 σ hM, g1, EqLo.trans0 hM g2⟩
  by_cases e1 : x = -1
  · subst e1
    exact go (-1) 0 (fun σ hC => by rw [cq σ hC, if_neg (by decide), if_pos (m1_lt _ (by omega)), if_pos rfl]) (fun σ hM => by rw [mq σ hM, if_pos rfl]) (Or.inl ⟨rfl, rfl⟩)
  · by_cases e2 : x < 0
    · have e3 : x < -1 := by
        rw [Int32.lt_iff_toInt_lt] at e2 ⊢
        rw [show (0 : Int32).toInt = 0 from rfl] at e2
        rw [show (-1 : Int32).toInt = -1 from rfl]
        have : x.toInt ≠ -1 := fun q => e1 (Int32.toInt_inj.mp (by rw [q]; rfl))
        omega
      refine no (fun σ hC => by rw [cq σ hC, if_pos e3]) (fun σ hM => ?_)
      rw [mq σ hM, if_neg e1, Model_isIn, if_pos (show x.toInt64 < (0 : Int64) from (i64_lt (a := 0) (by omega)).mpr e2)]; rfl
    · obtain ⟨j, j1, rfl⟩ := nI_of e2
      have n1 : ¬ nI j < -1 := fun q => by
        have := Int32.lt_trans (m1_lt j j1) q
        exact absurd this (by decide)
      have n0 : ¬ (nI j).toInt64 < (0 : Int64) := fun q => e2 ((i64_lt (a := 0) (by omega)).mp q)
      by_cases q : j < (gL A).1
      · refine go (nI j) (540 + 3 * j) (fun σ hC => by rw [cq σ hC, if_neg n1, if_pos (nI_lt q (by omega)), if_neg e1, if_pos (inb_nI (by omega) (by decide)), nI_clamp j1, ra3]) (fun σ hM => ?_) (Or.inr ⟨j, q, rfl, rfl⟩)
        rw [mq σ hM, if_neg e1, show nI (gL A).1 - (1 : Int32) = nI ((gL A).1 - 1) from pk_sub (b := 1) (by omega), nI_l (n := (gL A).1 - 1) (by omega), Model_isIn, if_neg n0, if_neg (fun q => by have := (nI_ltI (by omega) j1).mp ((i64_gt (by omega)).mp q); omega)]; rfl
      · refine no (fun σ hC => by rw [cq σ hC, if_neg n1, if_neg (nI_nlt (by omega) j1)]) (fun σ hM => ?_)
        rw [mq σ hM, if_neg e1, Model_isIn, if_neg n0]
        have : (nI (gL A).1 - (1 : Int32)).toInt64 < (nI j).toInt64 := by
          rw [Int64.lt_iff_toInt_lt, Int32.toInt_toInt64, Int32.toInt_toInt64, nI_toInt j1, show nI (gL A).1 - (1 : Int32) = nI (gL A).1 - nI 1 from rfl, pk_sub_toInt (by omega) (by omega)]
          omega
        rw [if_pos this]; rfl
/-! image -/
theorem gOk_I {A : Gh} {w : Rw} (hA : gOk A) (h : hasC A) (hw : rwOk (gK A) w) : gOk (sIm A (1, w)) := ⟨hA.1, hA.2.1, hA.2.2.1, hA.2.2.2.1, hA.2.2.2.2.1, hA.2.2.2.2.2.1, Or.inr rfl, hA.2.2.2.2.2.2.2.1, hA.2.2.2.2.2.2.2.2.1, Or.inr ⟨h.1, h.2.1, h.2.2.1, h.2.2.2.1, fun _ => hw, h.2.2.2.2.2⟩⟩
theorem sim_image : Sim f_Game_image f_Model_image := fun A hA => by
  have t8 := hA.T8
  have b6 := hA.B6
  have l4 := hA.2.1.1
  have d4 := hA.2.2.1.1
  have l130 : (130 : Int32).toNatClampNeg = 130 := by decide
  rcases hA.cs with p | hc
  · refine ⟨-1, A, hA, fun σ hC => ⟨σ, ?_, hC, EqHi.refl _⟩, fun σ hM => ⟨_, ?_, hM.z hA, EqLo.trans0 hM (EqLo.refl _)⟩⟩
    · unfold f_Game_image; rw [Trade_hasCity hC.k t8, if_pos p.1]; rfl
    · unfold f_Model_image; rw [(hM.z (v := 0) hA).k.2.1, p.2.1, if_pos (show nI 0 = (0 : Int32) from rfl)]
  · have hT1 := hc.1
    have hB1 := hc.2.1
    refine ⟨gW A 130, sIm A (1, gW A), gOk_I hA hc hc.2.2.2.1, fun σ hC => ?_, fun σ hM => ?_⟩
    · obtain ⟨hr, hg⟩ := hC.n hc
      obtain ⟨σ1, g1, g2, g3, g4, g5, g6, g7⟩ := State_copyFrom (o := 16) (p := 6) (by omega) t8 b6 hr hc.2.2.2.1.1
      refine ⟨sI σ1 0 16 1, ?_, ?_, fun a ha => ⟨by rw [row_ne (by omega)]; exact g4 a (by omega), by rw [mL_sI, g5], by rw [mR_sI, g6]⟩⟩
      · unfold f_Game_image
        rw [Trade_hasCity hC.k t8, if_neg (by omega), Option.bind_some, if_neg (by decide), g1, Option.bind_some, row_ne (by omega), g4 6 (by omega), hr.2.2.2.2.2.1.2.2.2.2]
      · obtain ⟨h1, h2, h3, h4, h5, h6, h7, h8, h9, h10⟩ := hC
        have cc := h6.c
        have kk : ∀ c, c ≠ 0 → ¬ (16 ≤ c ∧ c < 26) → mI (sI σ1 0 16 1) c = mI σ c := fun c c1 c2 => by rw [row_ne c1]; exact g4 c (by omega)
        have k0 : ∀ k, k ≠ 16 → mI (sI σ1 0 16 1) 0 k = mI σ 0 k := fun k hk => by rw [row_sI, upd_ne hk, g4 0 (by omega)]
        have hR : mR (sI σ1 0 16 1) = mR σ := g6
        refine ⟨h1.fr (by rw [kk 1 (by omega) (by omega)]) (kk 2 (by omega) (by omega)), h2.fr (k0 _ (by omega)) (k0 _ (by omega)) (fun i hi => ⟨kk _ (by omega) (by omega), kk _ (by omega) (by omega)⟩) (by rw [hR]), h3.fr (k0 _ (by omega)) (fun i hi => ⟨kk _ (by omega) (by omega), kk _ (by omega) (by omega)⟩), h4.fr (k0 _ (by omega)) (kk 5 (by omega) (by omega)), h5.fr4 (by rw [hR]) fun k hk => kk _ (by omega) (by omega), by unfold CDra; rw [hR]; exact h6, h7.fr fun a q1 q2 => kk a (by omega) (by omega), ⟨by rw [row_sI, upd_self]; rfl, fun _ => RS_RG_fr ⟨g2, g3 hg⟩ fun a a1 a2 => row_ne (by omega)⟩, h9.fr fun a q1 q2 => kk a (by omega) (by omega), h10.fr (by rw [kk 516 (by omega) (by omega)]) (kk 527 (by omega) (by omega)) (kk 528 (by omega) (by omega)) (kk 529 (by omega) (by omega))⟩
    · have hz := hM.z (v := 0) hA
      have key := loopF_count (step := f_Model_image_L16) (fun i => (rI (sI σ 565 0 0) 589 fun j => if j < i then gW A j else mI (sI σ 565 0 0) 589 j, nI i)) (gW A 130, sI (rI (sI σ 565 0 0) 589 fun j => if j < 312 then gW A j else mI (sI σ 565 0 0) 589 j) 565 56 1) 312 0 (fun j _ hj => by
        unfold f_Model_image_L16
        simp only [show ¬ (312 : Int32) ≤ nI j from nI_ge (b := 312) (by omega) (by omega), if_false, inb_nI (show j < 312 by omega) (show 312 < 2 ^ 31 by decide), if_true, nI_clamp (show j < 2 ^ 31 by omega), nI_1, rowr_ne (show (578 : Nat) ≠ 589 by omega), hz.w, sI_rI]
        congr 4
        funext k
        rw [upd_at]
        by_cases hk : k = j
        · rw [if_pos hk, if_pos (by omega), hk]
        · rw [if_neg hk]
          by_cases hk2 : k < j
          · rw [if_pos hk2, if_pos (by omega)]
          · rw [if_neg hk2, if_neg (by omega)]) (by
        unfold f_Model_image_L16
        simp only [show (312 : Int32) ≤ nI (0 + 312) by decide, if_true, row_ne (show (578 : Nat) ≠ 565 by omega), l130, rowr_ne (show (578 : Nat) ≠ 589 by omega)]
        rw [show mI σ 578 130 = gW A 130 by rw [hM.w]]) FU (by unfold FU; omega)
      have e0 : (rI (sI σ 565 0 0) 589 fun j => if j < 0 then gW A j else mI (sI σ 565 0 0) 589 j) = sI σ 565 0 0 := by
        have : (fun j => if j < 0 then gW A j else mI (sI σ 565 0 0) 589 j) = mI (sI σ 565 0 0) 589 := by funext j; rw [if_neg (by omega)]
        rw [this, rI_self]
      rw [e0] at key
      have kk : ∀ c, c ≠ 565 → c ≠ 589 → mI (sI (rI (sI σ 565 0 0) 589 fun j => if j < 312 then gW A j else mI (sI σ 565 0 0) 589 j) 565 56 1) c = mI (sI σ 565 0 0) c := fun c c1 c2 => by rw [row_ne c1, rowr_ne c2]
      have k5 : ∀ k, k ≠ 56 → mI (sI (rI (sI σ 565 0 0) 589 fun j => if j < 312 then gW A j else mI (sI σ 565 0 0) 589 j) 565 56 1) 565 k = mI (sI σ 565 0 0) 565 k := fun k hk => by rw [row_sI _ _ 56, upd_ne hk, rowr_ne (by omega)]
      refine ⟨_, ?_, ?_, EqLo.trans0 hM fun a ha => ⟨kk a (by omega) (by omega), rfl, rfl⟩⟩
      · unfold f_Model_image
        rw [hz.k.2.1, if_neg (nI_ne0 (by omega) (by omega))]
        exact key
      · obtain ⟨q1, q2, q3, q4, q5, ⟨q6, q6'⟩, q7, q8, q9, q10⟩ := hz
        refine ⟨?_, ⟨by rw [k5 _ (by omega)]; exact q2.1, by rw [k5 _ (by omega)]; exact q2.2.1, q2.2.2.fr (kk _ (by omega) (by omega)) (kk _ (by omega) (by omega)) rfl (kk _ (by omega) (by omega))⟩, ?_, ⟨fun k hk => by rw [kk 580 (by omega) (by omega)]; exact q4.1 k hk, by rw [k5 _ (by omega)]; exact q4.2⟩, q5.fr0 q6 q6' t8 b6 (fun k hk => k5 k (by omega)) (fun a ha => kk a (by omega) (by omega)), by rw [k5 39 (by omega), k5 41 (by omega)]; exact ⟨q6, q6'⟩, by rw [kk 578 (by omega) (by omega)]; exact q7, ⟨by rw [row_sI _ _ 56, upd_self]; rfl, fun _ j hj => by rw [row_ne (by omega), rowr_self, if_pos hj]; rfl⟩, ?_, ?_⟩
        · show MTape _ (gT A); unfold MTape; rw [k5 6 (by omega), kk 566 (by omega) (by omega)]; exact q1
        · show MDay _ (gD A); unfold MDay; rw [k5 30 (by omega), kk 577 (by omega) (by omega), kk 576 (by omega) (by omega)]; exact q3
        · show MHis _ (gH A); unfold MHis; rw [k5 44 (by omega), kk 583 (by omega) (by omega)]; exact q9
        · show MSee _ (gS A); unfold MSee; rw [k5 51 (by omega), kk 585 (by omega) (by omega)]; exact q10
