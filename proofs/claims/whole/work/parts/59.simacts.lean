/-! acts -/
theorem whS_ty {K : Cy} {w : Rw} {d : Nat} {x y : Int32} : whS K w d x y = -1 ∨ ∃ r, r < 6 ∧ whS K w d x y = nI r := by
  have p0 : ∃ r, r < 6 ∧ (0 : Int32) = nI r := ⟨0, by omega, rfl⟩
  have p1 : ∃ r, r < 6 ∧ (1 : Int32) = nI r := ⟨1, by omega, rfl⟩
  have p2 : ∃ r, r < 6 ∧ (2 : Int32) = nI r := ⟨2, by omega, rfl⟩
  have p3 : ∃ r, r < 6 ∧ (3 : Int32) = nI r := ⟨3, by omega, rfl⟩
  have p4 : ∃ r, r < 6 ∧ (4 : Int32) = nI r := ⟨4, by omega, rfl⟩
  unfold whS st0 st1 st2 st3
  repeat' split
  all_goals first | exact Or.inl rfl | exact Or.inr p0 | exact Or.inr p1 | exact Or.inr p2 | exact Or.inr p3 | exact Or.inr p4
theorem isS_n0 (x : Int32) : isS 0 x = 0 := by
  rcases isS_ty 0 x (by omega) with q | ⟨-, j, j1, -⟩
  · exact q
  · omega
theorem whS_nc {K : Cy} {w : Rw} {d : Nat} {x y : Int32} (h : cB K = 0) : whS K w d x y = 0 := by
  unfold whS st0 st1 st2 st3
  rw [h, isS_n0]
  simp only [if_true]
  repeat' split
  all_goals rfl
theorem Model_tries_no {σ : Mem} {A : Gh} {d r : Nat} {x y : Int32} (hA : gOk A) (hM : MRel σ A) (hd : d ≤ 3) (hr : r < 6) (h : whS (gK A) (gW A) d x y = nI r) : ∃ σ', f_Model_tries σ (nI d) x y = some (-1, σ') ∧ MRel σ' (sM A (stU (gM A) r)) ∧ EqLo σ σ' := by
  have hz := hM.z (v := 0) hA
  have hs := Model_stops (σ := sI σ 565 0 0) (x := x) (y := y) (Or.inl rfl) hA.T8 hA.B6 hz.k hd
  rw [hz.w, h] at hs
  obtain ⟨g1, g2, g3⟩ := Model_refused hA hz hr
  unfold f_Model_tries
  rw [hs, Option.bind_some, if_neg (nI_ne_m1 (by omega)), g1]
  exact ⟨_, rfl, g2, (SM_0 (v := 0) hM).2.2.2.2.2.trans g3⟩
theorem Model_tries_go {σ : Mem} {A : Gh} {d : Nat} {x y : Int32} (hA : gOk A) (hc : hasC A) (hM : MRel σ A) (hd : d ≤ 3) (h : whS (gK A) (gW A) d x y = -1) : ∃ σ', f_Model_tries σ (nI d) x y = some ((doS (gK A) (gW A) d x y).1, σ') ∧ MRel σ' (sW (sH A (hpush (gH A) (gW A))) (doS (gK A) (gW A) d x y).2) ∧ EqLo σ σ' := by
  have hz := hM.z (v := 0) hA
  have hs := Model_stops (σ := sI σ 565 0 0) (x := x) (y := y) (Or.inl rfl) hA.T8 hA.B6 hz.k hd
  rw [hz.w, h] at hs
  obtain ⟨σ1, g1, g2, g3⟩ := Model_remember hA hz
  obtain ⟨k1, k2⟩ := gOk_keep hA hc
  obtain ⟨σ2, g4, g5⟩ := Model_does (d := d) (x := x) (y := y) (N := 10000) k1.I hc.2.2.1 g2.k (Or.inl rfl) g2.i (by rw [g2.w]; exact hc.2.2.2.1.1) (by omega) hd (by rw [g2.w]; exact h)
  rw [g2.w] at g4 g5
  obtain ⟨g6, g7⟩ := g2.mr g5
  unfold f_Model_tries
  rw [hs, Option.bind_some, if_pos rfl, g1, Option.bind_some]
  have g4' : f_Model_does σ1 578 (nI d) x y = some ((doS (gK A) (gW A) d x y).1, σ2) := g4
  rw [g4']
  exact ⟨σ2, rfl, g6, ((SM_0 (v := 0) hM).2.2.2.2.2.trans g3).trans g7⟩
theorem rwOk_do {K : Cy} {w : Rw} {d : Nat} {x y : Int32} (hK : CyOk K) (hw : rwOk K w) (h : whS K w d x y = -1) : rwOk K (doS K w d x y).2 := by
  obtain ⟨a, b⟩ := doS_wf hK hw.1 h
  exact ⟨a, by rw [b 131 (by omega)]; exact hw.2.1, by unfold TrOk; rw [b 129 (by omega)]; exact hw.2.2⟩
theorem sim_act (d : Nat) (hd : d ≤ 3) (x y : Int32) (fG : Mem → Option (Int32 × Mem)) (fwhy : Mem → Option Int32) (fdo : Mem → Option (Int32 × Mem)) (e : ∀ σ, fG σ = (fwhy σ).bind fun q1 => (f_Game_refused σ q1).bind fun q2 => if q2.1 = 0 then (f_History_keep q2.2 6).bind fdo else some (-1, q2.2))
    (h1 : ∀ σ A, gOk A → CRel σ A → fwhy σ = some (whS (gK A) (gW A) d x y)) (h2 : ∀ σ A, gOk A → hasC A → CRel σ A → whS (gK A) (gW A) d x y = -1 → ∃ σ', fdo σ = some ((doS (gK A) (gW A) d x y).1, σ') ∧ CR (jA A) 6 (gK A) σ (doS (gK A) (gW A) d x y).2 σ') : Sim fG (fun σ => f_Model_tries σ (nI d) x y) := fun A hA => by
  rcases whS_ty (K := gK A) (w := gW A) (d := d) (x := x) (y := y) with q | ⟨r, r1, r2⟩
  · have hc : hasC A := by
      rcases hA.cs with p | p
      · rw [whS_nc p.2.1] at q; exact absurd q (by decide)
      · exact p
    obtain ⟨k1, k2⟩ := gOk_keep hA hc
    have ok := rwOk_do hc.2.2.1 hc.2.2.2.1 q
    refine ⟨(doS (gK A) (gW A) d x y).1, sW (sH A (hpush (gH A) (gW A))) (doS (gK A) (gW A) d x y).2, gOk_W k1 k2 ok, fun σ hC => ?_, fun σ hM => Model_tries_go hA hc hM hd q⟩
    obtain ⟨σ1, g1, g2, g3⟩ := History_keep hA hC hc
    obtain ⟨σ2, g4, g5⟩ := h2 σ1 _ k1 k2 g2 q
    obtain ⟨g6, g7⟩ := g2.cr k1 k2 g5 fun i hi => (doS_wf hc.2.2.1 hc.2.2.2.1.1 q).2 i (by omega)
    refine ⟨σ2, ?_, g6, g3.trans g7⟩
    rw [e, h1 σ A hA hC, q, Option.bind_some, Game_ref_m1, Option.bind_some, if_pos rfl, g1, Option.bind_some]
    exact g4
  · refine ⟨-1, sM A (stU (gM A) r), gOk_M hA, fun σ hC => ?_, fun σ hM => Model_tries_no hA hM hd r1 r2⟩
    obtain ⟨g1, g2, g3⟩ := Game_refused hA hC r1
    refine ⟨_, ?_, g2, g3⟩
    rw [e, h1 σ A hA hC, r2, Option.bind_some, g1, Option.bind_some]
    exact if_neg (show ¬ (1 : Int32) = 0 by decide)
theorem whS_0 {K : Cy} {w : Rw} {x y : Int32} : whS K w 0 x y = st0 K w x y := by unfold whS; rw [if_pos rfl]
theorem whS_1 {K : Cy} {w : Rw} {x y : Int32} : whS K w 1 x y = st1 K w x := by unfold whS; rw [if_neg (by omega), if_pos rfl]
theorem whS_2 {K : Cy} {w : Rw} {x y : Int32} : whS K w 2 x y = st2 K w x y := by unfold whS; rw [if_neg (by omega), if_neg (by omega), if_pos rfl]
theorem whS_3 {K : Cy} {w : Rw} {x y : Int32} : whS K w 3 x y = st3 K w x := by unfold whS; rw [if_neg (by omega), if_neg (by omega), if_neg (by omega)]
theorem ok6 : OkO 6 := ⟨by omega, by decide +kernel⟩
theorem sim_pick (x y : Int32) : Sim (fun σ => f_Game_pick σ x y) (fun σ => f_Model_pick σ x y) := by
  have := sim_act 0 (by omega) x y (fun σ => f_Game_pick σ x y) (fun σ => f_Trade_whyNotPick σ 6 x y) (fun q4 => (f_Trade_pickUp q4 6 x y).bind fun q5 => (f_Trade_liked q5 6 x y).bind fun q6 => some (q6.1, q6.2)) (fun σ => rfl) (fun σ A hA hC => by
    rcases hA.cs with p | p
    · rw [whS_nc p.2.1]
      unfold f_Trade_whyNotPick
      rw [Trade_isBuyer hC.k, p.2.1, isS_n0]; rfl
    · rw [whS_0]; exact Trade_whyNotPick hA.T8 hA.B6 hC.k (hC.n p).1) (fun σ A hA hc hC h => by
    obtain ⟨b, t, b1, t1, rfl, rfl, c1, c2⟩ := st0_go hc.2.2.1 (whS_0.symm.trans h)
    obtain ⟨σ1, g1, g2⟩ := Trade_pickUp hA.J hc.2.2.1 ok6 hC.j (hC.n hc).1 hc.2.2.2.1.1 b1 t1 c1 c2
    have hk := hC.k.fr ok6 g2.2.1
    obtain ⟨σ2, g3, g4⟩ := Trade_liked hA.J hc.2.2.1 hk ok6 g2.2.2.1 g2.1 b1 t1
    rw [g1, Option.bind_some, g3]
    have t8 := hA.T8
    have b6 := hA.B6
    unfold doS
    rw [if_pos rfl, nI_clamp (by omega), nI_clamp (by omega)]
    exact ⟨σ2, rfl, g2.trans (CR.cy hA.J ok6 g2.1 g2.2.2.1 g4)⟩)
  intro A hA
  obtain ⟨r, A', a, b, c⟩ := this A hA
  refine ⟨r, A', a, b, fun σ hM => ?_⟩
  obtain ⟨σ', g1, g2⟩ := c σ hM
  refine ⟨σ', ?_, g2⟩
  show f_Model_pick σ x y = _
  unfold f_Model_pick
  rw [show f_Model_tries σ (0 : Int32) x y = some (r, σ') from g1]; rfl
theorem sim_putBack (x : Int32) : Sim (fun σ => f_Game_putBack σ x) (fun σ => f_Model_putBack σ x) := by
  have := sim_act 1 (by omega) x 0 (fun σ => f_Game_putBack σ x) (fun σ => f_Trade_whyNotPutBack σ 6 x) (fun q4 => (f_Trade_layBack q4 6 x).bind fun q5 => some (q5.1, q5.2)) (fun σ => rfl) (fun σ A hA hC => by
    rcases hA.cs with p | p
    · rw [whS_nc p.2.1]
      unfold f_Trade_whyNotPutBack
      rw [Trade_isBuyer hC.k, p.2.1, isS_n0]; rfl
    · rw [whS_1]; exact Trade_whyNotPutBack hA.B6 hC.k (hC.n p).1) (fun σ A hA hc hC h => by
    obtain ⟨b, t, b1, t1, rfl, c1⟩ := st1_go hc.2.2.1 (whS_1.symm.trans h)
    have t8 := hA.T8
    have b6 := hA.B6
    obtain ⟨σ1, g1, g2⟩ := Trade_layBack hA.J hc.2.2.1 hC.k ok6 hC.j (hC.n hc).1 hc.2.2.2.1.1 b1 c1 (by omega)
    rw [g1]
    unfold doS hdS
    rw [if_neg (by omega), if_pos rfl, c1, nI_clamp (by omega), nI_clamp (by omega)]
    exact ⟨σ1, rfl, g2⟩)
  intro A hA
  obtain ⟨r, A', a, b, c⟩ := this A hA
  refine ⟨r, A', a, b, fun σ hM => ?_⟩
  obtain ⟨σ', g1, g2⟩ := c σ hM
  refine ⟨σ', ?_, g2⟩
  show f_Model_putBack σ x = _
  unfold f_Model_putBack
  rw [show f_Model_tries σ (1 : Int32) x (0 : Int32) = some (r, σ') from g1]; rfl
theorem sim_hand (x y : Int32) : Sim (fun σ => f_Game_hand σ x y) (fun σ => f_Model_hand σ x y) := by
  have := sim_act 2 (by omega) x y (fun σ => f_Game_hand σ x y) (fun σ => f_Trade_whyNotHand σ 6 x y) (fun q4 => (f_Trade_passOn q4 6 x y).bind fun q5 => some (q5.1, q5.2)) (fun σ => rfl) (fun σ A hA hC => by
    rcases hA.cs with p | p
    · rw [whS_nc p.2.1]
      unfold f_Trade_whyNotHand
      rw [Trade_isBuyer hC.k, p.2.1, isS_n0]; rfl
    · rw [whS_2]; exact Trade_whyNotHand hA.B6 hC.k (hC.n p).1) (fun σ A hA hc hC h => by
    obtain ⟨b, c, t, b1, b2, b3, t1, rfl, rfl, c1, c2⟩ := st2_go hc.2.2.1 (whS_2.symm.trans h)
    have t8 := hA.T8
    have b6 := hA.B6
    obtain ⟨σ1, g1, g2⟩ := Trade_passOn hA.J hc.2.2.1 ok6 hC.j (hC.n hc).1 hc.2.2.2.1.1 b1 b2 b3 c1 c2 (by omega)
    rw [g1]
    unfold doS hdS
    rw [if_neg (by omega), if_neg (by omega), if_pos rfl, c1, nI_clamp (by omega)]
    exact ⟨σ1, rfl, g2⟩)
  intro A hA
  obtain ⟨r, A', a, b, c⟩ := this A hA
  refine ⟨r, A', a, b, fun σ hM => ?_⟩
  obtain ⟨σ', g1, g2⟩ := c σ hM
  refine ⟨σ', ?_, g2⟩
  show f_Model_hand σ x y = _
  unfold f_Model_hand
  rw [show f_Model_tries σ (2 : Int32) x y = some (r, σ') from g1]; rfl
theorem sim_buy (x : Int32) : Sim (fun σ => f_Game_buy σ x) (fun σ => f_Model_buy σ x) := by
  have := sim_act 3 (by omega) x 0 (fun σ => f_Game_buy σ x) (fun σ => f_Trade_whyNotBuy σ 6 x) (fun q4 => (f_Trade_purchase q4 6 x).bind fun q5 => some (q5.1, q5.2)) (fun σ => rfl) (fun σ A hA hC => by
    rcases hA.cs with p | p
    · rw [whS_nc p.2.1]
      unfold f_Trade_whyNotBuy f_Trade_whyNotPutBack
      rw [Trade_isBuyer hC.k, p.2.1, isS_n0]; rfl
    · rw [whS_3]; exact Trade_whyNotBuy hA.T8 hA.B6 hC.k (hC.n p).1) (fun σ A hA hc hC h => by
    obtain ⟨b, t, b1, t1, rfl, c1, c2⟩ := st3_go hc.2.2.1 (whS_3.symm.trans h)
    have t8 := hA.T8
    have b6 := hA.B6
    obtain ⟨p, p1, p2, p3⟩ := hc.2.2.1.2.2.1 t t1
    obtain ⟨m, m1, m2⟩ := hc.2.2.2.1.1.2.2.1 b b1
    rw [p3, m2] at c2
    obtain ⟨σ1, g1, g2⟩ := Trade_purchase hA.J hc.2.2.1 hC.k ok6 hC.j (hC.n hc).1 hc.2.2.2.1.1 (by omega) b1 c1 (by omega) p3 m2 (le_of_nI (by omega) (by omega) c2) m1
    rw [g1]
    unfold doS hdS
    rw [if_neg (by omega), if_neg (by omega), if_neg (by omega), c1, nI_clamp (by omega), nI_clamp (by omega)]
    exact ⟨σ1, rfl, g2⟩)
  intro A hA
  obtain ⟨r, A', a, b, c⟩ := this A hA
  refine ⟨r, A', a, b, fun σ hM => ?_⟩
  obtain ⟨σ', g1, g2⟩ := c σ hM
  refine ⟨σ', ?_, g2⟩
  show f_Model_buy σ x = _
  unfold f_Model_buy
  rw [show f_Model_tries σ (3 : Int32) x (0 : Int32) = some (r, σ') from g1]; rfl
