/-! raises -/
theorem itH_tr {K : Cy} {N : Nat} {w : Rw} (hK : CyOk K) (hw : Wf (cT K) (cB K) N w) (ht : TrOk w) : ∀ n, TrOk (itH K w n) := by
  intro n
  induction n with
  | zero => exact ht
  | succ n ih => exact paH_tr hK (itH_wf hK hw n) ih
def tRS (K : Cy) (w : Rw) (n r : Nat) : Int32 := itH K (upd w 127 (nI r)) n 129
def raS (K : Cy) (w : Rw) (n : Nat) : Nat → Int32 × Int32
  | 0 => (-1, -1)
  | r + 1 => if (raS K w n r).2 < tRS K w n r then (nI r, tRS K w n r) else raS K w n r
theorem rate_wf {K : Cy} {N r : Nat} {w : Rw} (hK : CyOk K) (hw : Wf (cT K) (cB K) N w) (hr : r ≤ 8) : Wf (cT K) (cB K) N (upd w 127 (nI r)) := by
  obtain ⟨q1, q2, q3, q4, q5⟩ := hw
  exact ⟨q1.congr fun i h6 h7 => upd_ne (by omega), q2.congr hK.1 fun i h => upd_ne (by omega), q3.congr hK.2.1 fun i h6 h7 => upd_ne (by omega), ⟨r, hr, upd_self _ _ _⟩, q5.congr (upd_ne (by omega))⟩
theorem tRS_ok {K : Cy} {w : Rw} {n r : Nat} (hK : CyOk K) (hw : rwOk K w) (hr : r ≤ 8) : ∃ t, t ≤ 9999 ∧ tRS K w n r = nI t := itH_tr hK (rate_wf hK hw.1 hr) (by unfold TrOk; rw [upd_ne (by omega)]; exact hw.2.2) n
theorem raS_pos {K : Cy} {w : Rw} {n : Nat} (hK : CyOk K) (hw : rwOk K w) : ∀ r, 1 ≤ r → r ≤ 9 → (raS K w n r).1 ≠ -1 := by
  intro r
  induction r with
  | zero => intro h; omega
  | succ r ih =>
    intro _ hr
    show (if (raS K w n r).2 < tRS K w n r then (nI r, tRS K w n r) else raS K w n r).1 ≠ -1
    by_cases q : (raS K w n r).2 < tRS K w n r
    · rw [if_pos q]; exact nI_ne_m1 (by omega)
    · rw [if_neg q]
      by_cases r0 : r = 0
      · subst r0
        obtain ⟨t, t1, t2⟩ := tRS_ok (n := n) hK hw (show 0 ≤ 8 by omega)
        rw [t2] at q
        exact absurd (m1_lt t (by omega)) q
      · exact ih (by omega) (by omega)
theorem SC_434 {A : Gh} {σ : Mem} {k : Nat} {v : Int32} (hA : gOk A) (h : CRel σ A) : SC (gL A).1 (gD A).1 σ (sI σ 434 k v) := SC_of hA.2.1.1 hA.2.2.1.1 h.2.2.2.2.2.1.c (fun a ha => row_ne (by omega)) rfl rfl
theorem Outlook_seekRate {σ : Mem} {A : Gh} {n : Nat} (hA : gOk A) (hC : CRel σ A) (hc : hasC A) (hn : n ≤ 60) : ∃ σ', f_Outlook_seekRate σ 6 (nI n) = some σ' ∧ SC (gL A).1 (gD A).1 σ σ' ∧ mI σ' 434 2 = (raS (gK A) (gW A) n 9).1 ∧ mI σ' 434 3 = (raS (gK A) (gW A) n 9).2 := by
  have t8 := hA.T8
  have b6 := hA.B6
  unfold f_Outlook_seekRate
  have s0 := (SC_434 (k := 2) (v := -1) hA hC).trans (SC_434 (k := 3) (v := -1) hA (hC.scr (SC_434 (k := 2) (v := -1) hA hC)))
  refine loopF_go (fun i (s : Mem × Int32) => s.2 = nI i ∧ SC (gL A).1 (gD A).1 σ s.1 ∧ mI s.1 434 2 = (raS (gK A) (gW A) n i).1 ∧ mI s.1 434 3 = (raS (gK A) (gW A) n i).2) _ 9 ⟨rfl, s0, by rw [row_sI, upd_ne (by omega), row_sI, upd_self]; rfl, by rw [row_sI, upd_self]; rfl⟩ (by omega) ?_
  rintro i ⟨τ, z⟩ hi9 ⟨hz, hs, h2, h3⟩
  simp only at hz hs h2 h3
  subst hz
  unfold f_Outlook_seekRate_L13
  by_cases hlt : i < 9
  · have hC1 := hC.scr hs
    obtain ⟨hr, hg⟩ := hC1.n hc
    obtain ⟨σ1, g1, g2, g3, g4, g5, g6, g7⟩ := State_copyFrom (o := 435) (p := 6) (by omega) t8 b6 hr hc.2.2.2.1.1
    have cx := copy_CX g4 g5 g6
    have j1 := J_CX hA.J okO435 hC1.j cx
    have cr := CR_field (f := 11) (j := 127) (v := nI i) hA.J t8 b6 okO435 j1 g2 hc.2.2.2.1.m (Or.inl ⟨rfl, rfl⟩)
    obtain ⟨σ2, k1, k2, k3, k4⟩ := Outlook_hours (n := n) (f_Outlook_seekRate_L40 6 (nI n) (nI i)) (fun τ i hi => by
      unfold f_Outlook_seekRate_L40
      simp only [show ¬ nI n ≤ nI i from nI_ge hi (by omega), if_false, nI_1]) (fun τ => by
      unfold f_Outlook_seekRate_L40
      simp only [show nI n ≤ nI n from nI_le (Nat.le_refl _) (by omega), if_true]) hA.J hc.2.2.1 ((hC1.k.fr okO435 cx).fr okO435 cr.2.1) okO435 cr.2.2.1 cr.1 (rate_wf hc.2.2.1 hc.2.2.2.1.1 (by omega)) (by omega) (by omega)
    have cxx := (cx.trans cr.2.1).trans k3
    have sc1 := hs.trans (SC_cx hA hC1 (by omega) cxx)
    have hC2 := hC.scr sc1
    have e434 : mI σ2 434 = mI τ 434 := cxx.1 434 (by omega) (by omega)
    have e13 : mI σ2 435 13 = tRS (gK A) (gW A) n i := k2.2.2.2.2.2.1.2.2.2.1
    have ra : raS (gK A) (gW A) n (i + 1) = if (raS (gK A) (gW A) n i).2 < tRS (gK A) (gW A) n i then (nI i, tRS (gK A) (gW A) n i) else raS (gK A) (gW A) n i := rfl
    simp only [show ¬ (8 : Int32) < nI i from nI_nlt (a := 8) (by omega) (by omega), if_false, g1, Option.bind_some, k1]
    rw [e13, e434, h3, nI_1]
    by_cases q : tRS (gK A) (gW A) n i ≤ (raS (gK A) (gW A) n i).2
    · rw [if_pos q]
      rw [if_neg (Int32.not_lt.mpr q)] at ra
      exact exL ⟨hlt, rfl, sc1, by rw [e434, ra]; exact h2, by rw [e434, ra]; exact h3⟩
    · rw [if_neg q, row_ne (show (435 : Nat) ≠ 434 by omega), e13]
      rw [if_pos (Int32.not_le.mp q)] at ra
      exact exL ⟨hlt, rfl, sc1.trans ((SC_434 hA hC2).trans (SC_434 hA (hC2.scr (SC_434 hA hC2)))), by rw [row_sI, upd_ne (by omega), row_sI, upd_self, ra], by rw [row_sI, upd_self, ra]⟩
  · have : i = 9 := by omega
    subst this
    simp only [show (8 : Int32) < nI 9 by decide, if_true]
    exact exR ⟨hs, h2, h3⟩
theorem Model_raises_loop {σ : Mem} {A : Gh} {n : Nat} {y : Int32} (hA : gOk A) (hM : MRel σ A) (hc : hasC A) (hn : n ≤ 60) : ∃ σ', loopF (f_Model_raises_L44 (nI n) y) FU (σ, (-1 : Int32), (0 : Int32), (0 : Int32)) = some (σ', raS (gK A) (gW A) n 9) ∧ SM (gL A).1 (gL A).2.1 σ σ' := by
  have l127 : (127 : Int32).toNatClampNeg = 127 := by decide
  have l129 : (129 : Int32).toNatClampNeg = 129 := by decide
  obtain ⟨⟨σ', r1, r2⟩, g1, g2, g3⟩ := loopF_go (step := f_Model_raises_L44 (nI n) y) (a := (σ, (-1 : Int32), (0 : Int32), (0 : Int32))) (fun i s => s.2.2.2 = nI i ∧ SM (gL A).1 (gL A).2.1 σ s.1 ∧ ((i = 0 ∧ s.2.1 = -1) ∨ (1 ≤ i ∧ (s.2.1, s.2.2.1) = raS (gK A) (gW A) n i))) (fun r => SM (gL A).1 (gL A).2.1 σ r.1 ∧ r.2 = raS (gK A) (gW A) n 9) 9 ⟨rfl, SM.refl hM.t, Or.inl ⟨rfl, rfl⟩⟩ (by omega) (by
    rintro i ⟨τ, z3, z4, z5⟩ hi9 ⟨hz, hs, h2⟩
    simp only at hz hs h2
    subst hz
    unfold f_Model_raises_L44
    by_cases hlt : i < 9
    · have hM1 := hM.scr hA hs
      obtain ⟨σ1, k1, k2⟩ := TR_copy hA hM1
      have k3 : TR A τ (upd (gW A) 127 (nI i)) (sI σ1 579 127 (nI i)) := ⟨by rw [row_sI]; exact k2.1.up _ rfl, k2.2.1.trans (MX_sI (by omega)), I_sI hA.I k2.2.2 (Or.inr rfl)⟩
      obtain ⟨σ2, k4, k5, -⟩ := TR_hours (n := n) (f_Model_raises_L74 (nI n) y z3 z4 (nI i)) (fun τ i hi => by
        unfold f_Model_raises_L74
        simp only [show ¬ nI n ≤ nI i from nI_ge hi (by omega), if_false, nI_1]) (fun τ => by
        unfold f_Model_raises_L74
        simp only [show nI n ≤ nI n from nI_le (Nat.le_refl _) (by omega), if_true]) rfl hA hc.2.2.1 (hM1.k.fr (Or.inr rfl) k3.2.1) k3 (rate_wf hc.2.2.1 hc.2.2.2.1.1 (by omega)) (by omega) (by omega)
      have sm := hs.trans k5.sm
      have e129 : mI σ2 579 129 = tRS (gK A) (gW A) n i := k5.1 129 (by omega)
      have ra : raS (gK A) (gW A) n (i + 1) = if (raS (gK A) (gW A) n i).2 < tRS (gK A) (gW A) n i then (nI i, tRS (gK A) (gW A) n i) else raS (gK A) (gW A) n i := rfl
      simp only [show ¬ (8 : Int32) < nI i from nI_nlt (a := 8) (by omega) (by omega), if_false, k1, Option.bind_some, l127, k4, l129, e129, nI_1]
      rcases h2 with ⟨i0, h2⟩ | ⟨i1, h2⟩
      · rw [if_pos h2]
        subst i0
        obtain ⟨t, t1, t2⟩ := tRS_ok (n := n) hc.2.2.1 hc.2.2.2.1 (show 0 ≤ 8 by omega)
        rw [if_pos (show (raS (gK A) (gW A) n 0).2 < tRS (gK A) (gW A) n 0 by rw [t2]; exact m1_lt t (by omega))] at ra
        exact exL ⟨hlt, rfl, sm, Or.inr ⟨by omega, ra.symm⟩⟩
      · have e1 : z3 = (raS (gK A) (gW A) n i).1 := by rw [← h2]
        have e2 : z4 = (raS (gK A) (gW A) n i).2 := by rw [← h2]
        rw [if_neg (by rw [e1]; exact raS_pos hc.2.2.1 hc.2.2.2.1 i i1 (by omega)), e2]
        by_cases q : (raS (gK A) (gW A) n i).2 < tRS (gK A) (gW A) n i
        · rw [if_pos q]
          rw [if_pos q] at ra
          exact exL ⟨hlt, rfl, sm, Or.inr ⟨by omega, ra.symm⟩⟩
        · rw [if_neg q]
          rw [if_neg q] at ra
          exact exL ⟨hlt, rfl, sm, Or.inr ⟨by omega, by rw [ra, e1]⟩⟩
    · have : i = 9 := by omega
      subst this
      simp only [show (8 : Int32) < nI 9 by decide, if_true]
      rcases h2 with ⟨h, -⟩ | ⟨-, h⟩
      · omega
      · exact exR ⟨hs, h⟩)
  simp only at g2 g3
  rw [g1]
  exact ⟨σ', by rw [g3], g2⟩
theorem sim_raises (x y : Int32) : Sim (fun σ => f_Game_raises σ x y) (fun σ => f_Model_raises σ x y) := Sim.ro fun A hA => by
  have t8 := hA.T8
  have b6 := hA.B6
  have e1 : (1 : Int64) = lN 1 := rfl
  have e60 : (60 : Int64) = lN 60 := rfl
  have no : (∀ σ, CRel σ A → f_Game_raises σ x y = some (-1, σ)) → (∀ σ, MRel σ A → f_Model_raises σ x y = some (-1, sI σ 565 0 0)) → ∃ r, (∀ σ, CRel σ A → ∃ σ', (fun σ => f_Game_raises σ x y) σ = some (r, σ') ∧ SC (gL A).1 (gD A).1 σ σ') ∧ (∀ σ, MRel σ A → ∃ σ', (fun σ => f_Model_raises σ x y) σ = some (r, σ') ∧ SM (gL A).1 (gL A).2.1 σ σ') := fun h1 h2 =>
    ⟨-1, fun σ hC => ⟨σ, h1 σ hC, SC.refl _ _ _⟩, fun σ hM => ⟨_, h2 σ hM, SM_0 (v := 0) hM⟩⟩
  rcases hA.cs with p | hc
  · refine no (fun σ hC => ?_) (fun σ hM => ?_)
    · unfold f_Game_raises; rw [Trade_hasCity hC.k t8, if_pos p.1]; rfl
    · unfold f_Model_raises; rw [(hM.z (v := 0) hA).k.2.1, p.2.1, if_pos (show nI 0 = (0 : Int32) from rfl)]
  · have hT1 := hc.1
    have hB1 := hc.2.1
    have cq : ∀ σ, CRel σ A → f_Game_raises σ x y = if x < 1 then some (-1, σ) else if 60 < x then some (-1, σ) else if y < 0 then some (-1, σ) else if y ≤ 1 then (f_Outlook_seekRate σ 6 x).bind fun q7 => if y = 0 then some (mI q7 434 2, q7) else some (mI q7 434 3, q7) else some (-1, σ) := fun σ hC => by
      unfold f_Game_raises
      rw [Trade_hasCity hC.k t8, if_neg (by omega), Option.bind_some, if_neg (by decide)]
    have mq : ∀ σ, MRel σ A → f_Model_raises σ x y = if isR 1 60 x = 0 then some (-1, sI σ 565 0 0) else if isR 0 1 y = 0 then some (-1, sI σ 565 0 0) else (loopF (f_Model_raises_L44 x y) FU (sI σ 565 0 0, -1, 0, 0)).bind fun q => if y = 0 then some (q.2.1, q.1) else some (q.2.2, q.1) := fun σ hM => by
      unfold f_Model_raises
      rw [(hM.z (v := 0) hA).k.2.1, if_neg (nI_ne0 (by omega) (by omega)), e1, e60, Model_isInR (by omega) (by omega), Option.bind_some, l0, Model_isInR (by omega) (by omega), Option.bind_some]
    rcases rng1 60 x (by omega) (by omega) with ⟨r1, r2⟩ | ⟨r1, r2, r3⟩ | ⟨r1, j, j0, j1, rfl⟩
    · exact no (fun σ hC => by rw [cq σ hC, if_pos r1]) (fun σ hM => by rw [mq σ hM, if_pos r2])
    · exact no (fun σ hC => by rw [cq σ hC, if_neg r1, if_pos (show (60 : Int32) < x from r2)]) (fun σ hM => by rw [mq σ hM, if_pos r3])
    · have n1 : ¬ nI j < (1 : Int32) := nI_nlt (b := 1) (by omega) (by omega)
      have n60 : ¬ (60 : Int32) < nI j := nI_nlt (a := 60) (by omega) (by omega)
      have nr : ¬ isR 1 60 (nI j) = 0 := by rw [r1]; decide
      rcases rng0 1 y (by omega) with ⟨s1, s2⟩ | ⟨s1, s2, s3⟩ | ⟨s1, k, k1, rfl⟩
      · exact no (fun σ hC => by rw [cq σ hC, if_neg n1, if_neg n60, if_pos s1]) (fun σ hM => by rw [mq σ hM, if_neg nr, if_pos s2])
      · exact no (fun σ hC => by rw [cq σ hC, if_neg n1, if_neg n60, if_neg s1, if_neg (show ¬ y ≤ (1 : Int32) from Int32.not_le.mpr s2)]) (fun σ hM => by rw [mq σ hM, if_neg nr, if_pos s3])
      · refine ⟨if nI k = 0 then (raS (gK A) (gW A) j 9).1 else (raS (gK A) (gW A) j 9).2, fun σ hC => ?_, fun σ hM => ?_⟩
        · obtain ⟨σ', g1, g2, g3, g4⟩ := Outlook_seekRate hA hC hc j1
          refine ⟨σ', ?_, g2⟩
          show f_Game_raises σ (nI j) (nI k) = _
          rw [cq σ hC, if_neg n1, if_neg n60, if_neg (nI_pos (by omega)), if_pos (show nI k ≤ (1 : Int32) from nI_le (b := 1) k1 (by omega)), g1, Option.bind_some, g3, g4]
          split <;> rfl
        · have hz := hM.z (v := 0) hA
          obtain ⟨σ', g1, g2⟩ := Model_raises_loop (y := nI k) hA hz hc j1
          refine ⟨σ', ?_, (SM_0 (v := 0) hM).trans g2⟩
          show f_Model_raises σ (nI j) (nI k) = _
          rw [mq σ hM, if_neg nr, if_neg (by rw [s1]; decide), g1, Option.bind_some]
          split <;> rfl
