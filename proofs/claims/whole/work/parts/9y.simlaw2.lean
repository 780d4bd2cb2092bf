/-! a law told: fault and text -/
theorem nar_by : ∀ c, c < 256 → vp_nar .byte ((nI c).toInt8.toInt32) = (nI c).toInt8.toInt32 := by decide +kernel
def v6 (p w d m s h : Int32) : Nat → Int32 := fun q => if q = 0 then p else if q = 1 then w else if q = 2 then d else if q = 3 then m else if q = 4 then s else h
theorem l6_v (r : Rw) : l6 r = v6 (r 0) (r 1) (r 2) (r 3) (r 4) (r 5) := by
  funext q
  unfold l6 v6
  by_cases h0 : q = 0
  · subst h0; rfl
  · by_cases h1 : q = 1
    · subst h1; rfl
    · by_cases h2 : q = 2
      · subst h2; rfl
      · by_cases h3 : q = 3
        · subst h3; rfl
        · by_cases h4 : q = 4
          · subst h4; rfl
          · rw [if_neg h0, if_neg h1, if_neg h2, if_neg h3, if_neg h4, if_neg (by omega)]
theorem lets_v (τ : Mem) : lets τ = v6 (mI τ 569 112) (mI τ 569 119) (mI τ 569 100) (mI τ 569 109) (mI τ 569 115) (mI τ 569 104) := by
  funext q
  unfold lets v6 lcd
  by_cases h0 : q = 0
  · rw [if_pos h0, if_pos h0]
  · by_cases h1 : q = 1
    · rw [if_neg h0, if_neg h0, if_pos h1, if_pos h1]
    · by_cases h2 : q = 2
      · rw [if_neg h0, if_neg h0, if_neg h1, if_neg h1, if_pos h2, if_pos h2]
      · by_cases h3 : q = 3
        · rw [if_neg h0, if_neg h0, if_neg h1, if_neg h1, if_neg h2, if_neg h2, if_pos h3, if_pos h3]
        · by_cases h4 : q = 4
          · rw [if_neg h0, if_neg h0, if_neg h1, if_neg h1, if_neg h2, if_neg h2, if_neg h3, if_neg h3, if_pos h4, if_pos h4]
          · rw [if_neg h0, if_neg h0, if_neg h1, if_neg h1, if_neg h2, if_neg h2, if_neg h3, if_neg h3, if_neg h4, if_neg h4]
theorem lcd_is (q : Nat) : lcd q = 112 ∨ lcd q = 119 ∨ lcd q = 100 ∨ lcd q = 109 ∨ lcd q = 115 ∨ lcd q = 104 := by
  unfold lcd
  repeat' split
  all_goals simp
def lkL (ks : List Cl) : Lk6 := fun p w d m s h => imax 0 (imin 99 (dnL ks (v6 p w d m s h)))
theorem SC_dxl {A : Gh} {σ σ' : Mem} {o : Nat} (hA : gOk A) (hC : CRel σ A) (ho : o = 540 + 3 * (gL A).1) (g : DX o σ σ') : SC (gL A).1 (gD A).1 σ σ' := by
  have l4 := hA.2.1.1
  have d4 := hA.2.2.1.1
  have cc := hC.2.2.2.2.2.1.c
  exact ⟨fun a ha => g.1 a (by omega) (by omega) (by omega), g.2.1 1 (by omega) (by omega), fun k hk => g.1 _ (by omega) (by omega) (by omega), fun i hi => ⟨g.1 _ (by omega) (by omega) (by omega), g.1 _ (by omega) (by omega) (by omega)⟩, fun i hi => ⟨g.1 _ (by omega) (by omega) (by omega), g.1 _ (by omega) (by omega) (by omega)⟩, g.2.2.2, fun a _ => by rw [g.2.2.1]⟩
theorem SM_gt {A : Gh} {σ σ' : Mem} (hM : MRel σ A) (g : GT σ σ') : SM (gL A).1 (gL A).2.1 σ σ' :=
  ⟨fun a ha => g.1 a (by omega), fun k hk => g.2.2.2 k (by omega), fun k _ => by rw [g.1 576 (by omega)], fun k _ => by rw [g.1 577 (by omega)], hM.t.fr (g.1 _ (by omega)) (g.1 _ (by omega)) (by rw [g.2.1]) (g.1 _ (by omega)), fun c hc => ⟨g.1 c (by omega), by rw [g.2.1], funext fun k => g.2.2.1 c k (by omega)⟩⟩
def lwA (A : Gh) : Nat × Option (List Cl × List Int32) := lwR (tx (gT A)) (gT A).1
theorem lwA_ok {A : Gh} : (lwA A).1 ≤ (gT A).1 ∧ ∀ r, (lwA A).2 = some r → r.2.length ≤ (lwA A).1 := lwF_ok 240 [] [] 0 (Nat.zero_le _) (Nat.le_refl _)
theorem fault_law_c {A : Gh} {σ : Mem} (hA : gOk A) (hC : CRel σ A) : ∃ σ', f_Game_fault σ 1 = some (ftS (lwA A), σ') ∧ SC (gL A).1 (gD A).1 σ σ' ∧ ∀ r, (lwA A).2 = some r → mI σ' (540 + 3 * (gL A).1) 2 = nI r.2.length ∧ RowIs (mI σ' (540 + 3 * (gL A).1 + 1)) r.2 := by
  have l4 := hA.2.1.1
  obtain ⟨σ', g1, g2, g3⟩ := Law_read (o := 540 + 3 * (gL A).1) (okX_of hA.1) (by omega) (CTx_of hA.1 hC.1)
  refine ⟨σ', ?_, SC_dxl hA hC rfl g2, g3⟩
  unfold f_Game_fault
  rw [if_neg (show ¬ (1 : Int32) = 0 by decide), if_pos (show (1 : Int32) = 1 from rfl), hC.2.1.1, if_pos (inb_nI (show (gL A).1 < 5 by omega) (by decide)), nI_clamp (by omega), ra3, g1]
  rfl
theorem fault_law_m {A : Gh} {σ : Mem} (hA : gOk A) (hM : MRel σ A) : ∃ σ', f_Model_fault σ 1 = some (ftS (lwA A), σ') ∧ SM (gL A).1 (gL A).2.1 σ σ' := by
  have hz := hM.z (v := 0) hA
  have mt := MTt_of hA.1 hz.1
  obtain ⟨σ', g1, g2, g3, -⟩ := goThrough (okX_of hA.1) okA_6 (σ := sI σ 565 0 0) (fun j hj => by rw [Nat.zero_add]; exact mt.2 j hj)
  refine ⟨σ', ?_, (SM_0 (v := 0) hM).trans (SM_gt hz g2)⟩
  unfold f_Model_fault f_Model_fault_J28 f_Model_fault_J46
  rw [show (2 : Int64) = lN 2 from rfl, show (0 : Int64) = lN 0 from rfl, Model_isInR (by omega) (by omega), Option.bind_some, if_neg (show ¬ isR 0 2 1 = 0 by decide), if_neg (show ¬ (1 : Int32) = 0 by decide), if_pos (show (1 : Int32) = 1 from rfl), mt.1, show (0 : Int32) = nI 0 from rfl]
  rw [show (0 : Int32) = nI 0 from rfl] at g1
  rw [g1, Option.bind_some, if_neg (show ¬ (1 : Int32) = 2 by decide), g3]
  rfl
theorem fault_law {A : Gh} (hA : gOk A) : SimA A (fun σ => f_Game_fault σ 1) (fun σ => f_Model_fault σ 1) := SimA.ro hA ⟨_, fun σ hC => by
    obtain ⟨σ', g1, g2, -⟩ := fault_law_c hA hC
    exact ⟨σ', g1, g2⟩, fun σ hM => by
    obtain ⟨σ', g1, g2⟩ := fault_law_m hA hM
    exact ⟨σ', g1, g2⟩⟩
/-- the law told is kept -/
def lwN (A : Gh) (ks : List Cl) : gLt := ((gL A).1 + 1, fun i => if i = (gL A).1 then lkL ks else (gL A).2.1 i, (gL A).2.2)
def sTL (A : Gh) (ks : List Cl) : Gh := ((0, (gT A).2), lwN A ks, gD A, gM A, gK A, gW A, gI A, gH A, gS A)
theorem sTL_ok {A : Gh} {ks : List Cl} (hA : gOk A) (h4 : (gL A).1 < 4) : gOk (sTL A ks) := by
  refine ⟨⟨Nat.zero_le _, fun i hi => absurd hi (Nat.not_lt_zero _)⟩, ⟨by show (gL A).1 + 1 ≤ 4; omega, ?_⟩, hA.2.2.1, ?_, hA.2.2.2.2⟩
  · rcases hA.2.1.2 with h | ⟨i, h1, h2⟩
    · exact Or.inl h
    · exact Or.inr ⟨i, by show i < (gL A).1 + 1; omega, h2⟩
  · show cL (gK A) = lkN (fun i => if i = (gL A).1 then lkL ks else (gL A).2.1 i) (gL A).2.2
    rw [hA.2.2.2.1]
    unfold lkN
    rcases hA.2.1.2 with h | ⟨i, h1, h2⟩
    · rw [if_pos h, if_pos h]
    · rw [h2, if_neg (nI_ne_m1 (by omega)), if_neg (nI_ne_m1 (by omega)), nI_clamp (by omega)]
      exact (if_neg (by omega)).symm
theorem text_law_m0 {A : Gh} {σ : Mem} (hA : gOk A) (hM : MRel σ A) : f_Model_text σ 1 = if (gL A).1 = 4 then some (-1, sI σ 565 0 0) else f_Model_text_J43 (sI σ 565 0 0) 1 := by
  have hz := hM.z (v := 0) hA
  have l4 := hA.2.1.1
  unfold f_Model_text f_Model_text_J30
  rw [show (2 : Int64) = lN 2 from rfl, show (0 : Int64) = lN 0 from rfl, Model_isInR (by omega) (by omega), Option.bind_some, if_neg (show ¬ isR 0 2 1 = 0 by decide), if_pos (show (1 : Int32) = 1 from rfl), hz.2.1.1, if_neg (show ¬ (1 : Int32) = 2 by decide)]
  by_cases q : (gL A).1 = 4
  · rw [if_pos (show nI (gL A).1 = (4 : Int32) by rw [q]; rfl), if_pos q]
  · rw [if_neg (show ¬ nI (gL A).1 = (4 : Int32) from fun p => q ((nI_eq (b := 4) (by omega) (by decide)).mp p)), if_neg q]
theorem text_law {A : Gh} (hA : gOk A) : SimA A (fun σ => f_Game_text σ 1) (fun σ => f_Model_text σ 1) := by
  have l4 := hA.2.1.1
  have d4 := hA.2.2.1.1
  have t240 := hA.1.1
  have t8 := hA.T8
  have b6 := hA.B6
  have c0 : ∀ σ, CRel σ A → ∃ σ', f_Game_text σ 1 = (if ftS (lwA A) = -1 then (if 4 ≤ (gL A).1 then some (-1, σ') else (f_Game_keepLaw σ').bind fun q9 => some (q9.1, q9.2)) else some (-1, σ')) ∧ SC (gL A).1 (gD A).1 σ σ' ∧ ∀ r, (lwA A).2 = some r → mI σ' (540 + 3 * (gL A).1) 2 = nI r.2.length ∧ RowIs (mI σ' (540 + 3 * (gL A).1 + 1)) r.2 := fun σ hC => by
    obtain ⟨σ', g1, g2, g3⟩ := fault_law_c hA hC
    have c1 := hC.scr g2
    refine ⟨σ', ?_, g2, g3⟩
    unfold f_Game_text
    rw [g1, Option.bind_some]
    dsimp only
    rw [if_neg (show ¬ (1 : Int32) = 0 by decide), if_pos (show (1 : Int32) = 1 from rfl), c1.2.1.1]
    by_cases q : 4 ≤ (gL A).1
    · rw [if_pos (show (4 : Int32) ≤ nI (gL A).1 from nI_le (a := 4) q (by omega)), if_pos q]
    · rw [if_neg (show ¬ (4 : Int32) ≤ nI (gL A).1 from nI_ge (b := 4) (by omega) (by omega)), if_neg q]
  cases hq : (lwA A).2 with
  | none =>
    have hn := ft_none hq (by have := (lwA_ok (A := A)).1; omega)
    refine SimA.ro hA ⟨-1, fun σ hC => ?_, fun σ hM => ?_⟩
    · obtain ⟨σ', g1, g2, -⟩ := c0 σ hC
      exact ⟨σ', by show f_Game_text σ 1 = _; rw [g1, if_neg hn], g2⟩
    · have hz := hM.z (v := 0) hA
      show ∃ σ', f_Model_text σ 1 = _ ∧ _
      rw [text_law_m0 hA hM]
      by_cases q4 : (gL A).1 = 4
      · rw [if_pos q4]
        exact ⟨_, rfl, SM_0 (v := 0) hM⟩
      · obtain ⟨σ', g1, g2⟩ := fault_law_m hA hz
        refine ⟨σ', ?_, (SM_0 (v := 0) hM).trans g2⟩
        rw [if_neg q4]
        unfold f_Model_text_J43
        rw [g1, Option.bind_some]
        dsimp only
        rw [if_neg hn]
  | some r =>
    have hs := ft_some hq
    by_cases q4 : (gL A).1 = 4
    · refine SimA.ro hA ⟨-1, fun σ hC => ?_, fun σ hM => ?_⟩
      · obtain ⟨σ', g1, g2, -⟩ := c0 σ hC
        exact ⟨σ', by show f_Game_text σ 1 = _; rw [g1, if_pos hs, if_pos (by omega)], g2⟩
      · exact ⟨_, by show f_Model_text σ 1 = _; rw [text_law_m0 hA hM, if_pos q4], SM_0 (v := 0) hM⟩
    · have q4 : (gL A).1 < 4 := by omega
      refine ⟨nI (gL A).1, sTL A r.1, sTL_ok hA q4, fun σ hC => ?_, fun σ hM => ?_⟩
      · obtain ⟨σ1, g1, g2, g3⟩ := c0 σ hC
        obtain ⟨g4, g5⟩ := g3 r hq
        obtain ⟨h1, h2, h3, h4, h5, h6, h7, h8, h9, h10⟩ := hC.scr g2
        have cc := h6.c
        rw [hs, if_pos rfl, if_neg (by omega)] at g1
        have kk : ∀ c, c ≠ 0 → c ≠ 1 → mI (sI (sI σ1 1 1 (0 : Int32)) 0 12 (nI ((gL A).1 + 1))) c = mI σ1 c := fun c q1 q2 => by rw [row_ne q1, row_ne q2]
        have k0 : ∀ k, k ≠ 12 → mI (sI (sI σ1 1 1 (0 : Int32)) 0 12 (nI ((gL A).1 + 1))) 0 k = mI σ1 0 k := fun k hk => by rw [row_sI _ 0, upd_ne hk, row_ne (by omega)]
        have kR : mR (sI (sI σ1 1 1 (0 : Int32)) 0 12 (nI ((gL A).1 + 1))) = mR σ1 := rfl
        have k12 : mI (sI (sI σ1 1 1 (0 : Int32)) 0 12 (nI ((gL A).1 + 1))) 0 12 = nI ((gL A).1 + 1) := by rw [row_sI, upd_self]
        have fG : f_Game_text σ 1 = some (nI (gL A).1, sI (sI σ1 1 1 (0 : Int32)) 0 12 (nI ((gL A).1 + 1))) := by
          rw [g1]
          unfold f_Game_keepLaw
          rw [row_ne (show (0 : Nat) ≠ 1 by omega), h2.1, nI_1, row_sI _ 0, upd_self, z_sub1 (by omega), Nat.add_sub_cancel]
          rfl
        have k1 : mI (sI (sI σ1 1 1 (0 : Int32)) 0 12 (nI ((gL A).1 + 1))) 1 1 = 0 := by rw [row_ne (by omega), row_sI, upd_self]
        have kH : EqHi σ1 (sI (sI σ1 1 1 (0 : Int32)) 0 12 (nI ((gL A).1 + 1))) := fun a ha => ⟨kk a (by omega) (by omega), rfl, rfl⟩
        generalize sI (sI σ1 1 1 (0 : Int32)) 0 12 (nI ((gL A).1 + 1)) = σ2 at *
        have ex := lwF_ex (X := tx (gT A)) (L := (gT A).1) (o := 540 + 3 * (gL A).1) (okX_of hA.1) (by omega) 240 [] [] 0 rfl (fun k hk => absurd hk (List.not_mem_nil)) r hq
        have lle := (lwA_ok (A := A)).2 r hq
        have lle1 := (lwA_ok (A := A)).1
        have old : ∀ i, i < (gL A).1 → CodeC σ1 i ((gL A).2.1 i) → CodeC σ2 i ((gL A).2.1 i) := fun i hi q τ t1 t2 => q τ (by rw [t1, kk _ (by omega) (by omega)]) (by rw [t2, kk _ (by omega) (by omega)])
        have new : CodeC σ2 (gL A).1 (lkL r.1) := fun τ t1 t2 => by
          obtain ⟨τ', w1, w2⟩ := Law_worth (o := 540 + 3 * (gL A).1) (ks := r.1) (τ := τ) (by omega) ex.2 (by rw [← ex.1]; omega) (by rw [t1, kk _ (by omega) (by omega), g4, ← ex.1]) (by
            rw [show 540 + 3 * (gL A).1 + 1 = 541 + 3 * (gL A).1 by omega] at g5 ⊢
            rw [t2, kk _ (by omega) (by omega), ← ex.1]; exact g5)
          refine ⟨_, τ', w1, ?_, fun a ha => w2.1 a (by omega), w2.2⟩
          rw [l6_v]
          rfl
        have nw : ∀ i, i < (gL A).1 + 1 → CodeC σ2 i ((lwN A r.1).2.1 i) := fun i hi => by
          show CodeC σ2 i (if i = (gL A).1 then lkL r.1 else (gL A).2.1 i)
          by_cases e : i = (gL A).1
          · rw [if_pos e, e]; exact new
          · rw [if_neg e]; exact old i (by omega) (h2.2.2.1 i (by omega))
        refine ⟨σ2, fG, ⟨⟨k1, fun i hi => absurd hi (Nat.not_lt_zero _)⟩, ⟨k12, (k0 13 (by omega)).trans h2.2.1, nw, ?_⟩, ?_, ?_, ?_, ?_, ?_, ?_, ?_, ?_⟩, g2.hi.trans kH⟩
        · rcases h2.2.2.2 with ⟨q1, q2⟩ | ⟨i, q1, q2, q3, q5⟩
          · exact Or.inl ⟨q1, by rw [kR]; exact q2⟩
          · exact Or.inr ⟨i, by show i < (gL A).1 + 1; omega, q2, by rw [kR]; exact q3, nw i (by omega)⟩
        · exact h3.fr (k0 _ (by omega)) (fun i hi => ⟨kk _ (by omega) (by omega), kk _ (by omega) (by omega)⟩)
        · exact h4.fr (k0 _ (by omega)) (kk _ (by omega) (by omega))
        · exact h5.fr4 (by rw [kR]) fun k hk => kk _ (by omega) (by omega)
        · show CDra σ2; unfold CDra; rw [kR]; exact h6
        · exact h7.fr fun a q1 q2 => kk a (by omega) (by omega)
        · exact h8.fr (k0 _ (by omega)) fun a q1 q2 => kk a (by omega) (by omega)
        · exact h9.fr fun a q1 q2 => kk a (by omega) (by omega)
        · exact h10.fr (by rw [kk 516 (by omega) (by omega)]) (kk 527 (by omega) (by omega)) (kk 528 (by omega) (by omega)) (kk 529 (by omega) (by omega))
      · have hz := hM.z (v := 0) hA
        obtain ⟨σ1, g1, g2⟩ := fault_law_m hA hz
        have sm := (SM_0 (v := 0) hM).trans g2
        obtain ⟨q1, q2, q3, q4', q5, ⟨q6, q6'⟩, q7, q8, q9, q10⟩ := hM.scr hA sm
        have mt := MTt_of hA.1 q1
        have hx : ∀ c, c ≠ 565 → mI (sI σ1 565 6 (0 : Int32)) c = mI σ1 c := fun c hc => row_ne hc
        have hx5 : ∀ k, k ≠ 6 → mI (sI σ1 565 6 (0 : Int32)) 565 k = mI σ1 565 k := fun k hk => by rw [row_sI, upd_ne hk]
        obtain ⟨⟨rv, σ3⟩, k1, k2, τ, k3, k4, k5⟩ := loopF_go (step := f_Model_text_L71 1 (nI (gT A).1)) (a := (sI σ1 565 6 (0 : Int32), (0 : Int32))) (fun i s => s.2 = nI i ∧ FX 567 (sI σ1 565 6 (0 : Int32)) s.1 ∧ ∀ j, mI s.1 567 j = if 240 * (gL A).1 ≤ j ∧ j < 240 * (gL A).1 + i then (nI (tx (gT A) (j - 240 * (gL A).1))).toInt8.toInt32 else mI σ1 567 j) (fun r => r.1 = nI (gL A).1 ∧ ∃ τ, FX 567 (sI σ1 565 6 (0 : Int32)) τ ∧ (∀ j, mI τ 567 j = if 240 * (gL A).1 ≤ j ∧ j < 240 * (gL A).1 + (gT A).1 then (nI (tx (gT A) (j - 240 * (gL A).1))).toInt8.toInt32 else mI σ1 567 j) ∧ r.2 = sI (sI τ 568 (gL A).1 (nI (gT A).1)) 565 7 (nI ((gL A).1 + 1))) (gT A).1 ⟨rfl, ⟨fun _ _ => rfl, rfl, rfl⟩, fun j => by rw [if_neg (by omega), hx 567 (by omega)]⟩ (by omega) (by
          rintro i ⟨τ, z⟩ hi ⟨e1, e2, e3⟩
          simp only at e1 e2 e3
          subst e1
          have e7 : mI τ 565 7 = nI (gL A).1 := by rw [e2.1 565 (by omega), hx5 7 (by omega)]; exact q2.1
          unfold f_Model_text_L71
          dsimp only
          rw [e7]
          by_cases hlt : i < (gT A).1
          · have i2 : (240 : Int32) * nI (gL A).1 + nI i = nI (240 * (gL A).1 + i) := by rw [show (240 : Int32) = nI 240 from rfl, pk_mul, nI_add]
            have tv := (tx_nI hA.1 hlt).2.2
            have e6 : mI τ 566 i = (nI (tx (gT A) i)).toInt8.toInt32 := by rw [e2.1 566 (by omega), hx 566 (by omega)]; exact mt.2 i hlt
            rw [if_neg (show ¬ nI (gT A).1 ≤ nI i from nI_ge hlt (by omega)), i2, if_pos (inb_nI (show i < 240 by omega) (by decide)), if_pos (inb_nI (show 240 * (gL A).1 + i < 960 by omega) (by decide)), nI_clamp (show 240 * (gL A).1 + i < 2 ^ 31 by omega), nI_clamp (show i < 2 ^ 31 by omega), e6, nar_by _ tv, nI_1]
            refine exL ⟨hlt, rfl, ⟨fun c hc => by rw [row_ne hc]; exact e2.1 c hc, e2.2⟩, fun j => ?_⟩
            rw [row_sI, upd_at, e3 j]
            by_cases e : j = 240 * (gL A).1 + i
            · rw [if_pos e, if_pos (by omega), e, Nat.add_sub_cancel_left]
            · rw [if_neg e]
              by_cases e' : 240 * (gL A).1 ≤ j ∧ j < 240 * (gL A).1 + i
              · rw [if_pos e', if_pos (by omega)]
              · rw [if_neg e', if_neg (by omega)]
          · have : i = (gT A).1 := by omega
            subst this
            rw [if_pos (nI_le (Nat.le_refl _) (by omega)), if_pos (inb_nI (show (gL A).1 < 4 by omega) (by decide)), nI_clamp (show (gL A).1 < 2 ^ 31 by omega), row_ne (show (565 : Nat) ≠ 568 by omega), e7, nI_1, row_sI _ 565, upd_self, z_sub1 (by omega), Nat.add_sub_cancel]
            exact exR ⟨rfl, τ, e2, e3, rfl⟩)
        simp only at k2 k5
        subst k2
        have kk : ∀ c, c ≠ 565 → c ≠ 567 → c ≠ 568 → mI σ3 c = mI σ1 c := fun c h1 h2 h3 => by rw [k5, row_ne h1, row_ne h3, k3.1 c h2, hx c h1]
        have kf : ∀ k, k ≠ 6 → k ≠ 7 → mI σ3 565 k = mI σ1 565 k := fun k h1 h2 => by rw [k5, row_sI _ 565, upd_ne h2, row_ne (by omega), k3.1 565 (by omega), hx5 k h1]
        have kR : mR σ3 = mR σ1 := by rw [k5, mR_sI, mR_sI, k3.2.2, mR_sI]
        have kL : mL σ3 = mL σ1 := by rw [k5, mL_sI, mL_sI, k3.2.1, mL_sI]
        have r7 : ∀ j, mI σ3 567 j = if 240 * (gL A).1 ≤ j ∧ j < 240 * (gL A).1 + (gT A).1 then (nI (tx (gT A) (j - 240 * (gL A).1))).toInt8.toInt32 else mI σ1 567 j := fun j => by rw [k5, row_ne (by omega), row_ne (by omega), k4]
        have r8 : ∀ i, mI σ3 568 i = if i = (gL A).1 then nI (gT A).1 else mI σ1 568 i := fun i => by rw [k5, row_ne (by omega), row_sI, upd_at, k3.1 568 (by omega), hx 568 (by omega)]
        have k6 : mI σ3 565 6 = 0 := by rw [k5, row_sI _ 565, upd_ne (by omega), row_ne (by omega), k3.1 565 (by omega), row_sI, upd_self]
        have k7 : mI σ3 565 7 = nI ((gL A).1 + 1) := by rw [k5, row_sI, upd_self]
        have fM : f_Model_text σ 1 = some (nI (gL A).1, σ3) := by
          rw [text_law_m0 hA hM, if_neg (by omega)]
          unfold f_Model_text_J43
          rw [g1, Option.bind_some]
          dsimp only
          rw [if_pos hs, if_pos (show (1 : Int32) = 1 from rfl), q1.1]
          exact k1
        clear k1 k5
        have tex : ∀ i, i < (gL A).1 + 1 → TextM σ3 i ((lwN A r.1).2.1 i) := fun i hi τ t1 t2 t3 => by
          show ∃ τ', f_Model_goThrough τ 567 (nI (240 * i)) (mI τ 568 i) = some τ' ∧ imax 0 (imin 99 (mI τ' 565 14)) = (if i = (gL A).1 then lkL r.1 else (gL A).2.1 i) (mI τ 569 112) (mI τ 569 119) (mI τ 569 100) (mI τ 569 109) (mI τ 569 115) (mI τ 569 104) ∧ GT τ τ'
          by_cases e : i = (gL A).1
          · rw [if_pos e]
            subst e
            obtain ⟨τ', w1, w2, w3, w4⟩ := goThrough (okX_of hA.1) (okA_7 q4) (σ := τ) (fun j hj => by rw [t1 j (by omega), r7, if_pos (by omega), Nat.add_sub_cancel_left])
            refine ⟨τ', ?_, ?_, w2⟩
            · rw [t2, r8, if_pos rfl]; exact w1
            · have hb : bdl (lets τ) := fun q _ => t3 _ (lcd_is q)
              rw [w4 r hq hb, lets_v]
              rfl
          · rw [if_neg e]
            exact q2.2.2.2.1 i (by omega) τ (fun j hj => by rw [t1 j hj, r7, if_neg (by omega)]) (by rw [t2, r8, if_neg e]) t3
        refine ⟨σ3, fM, ⟨⟨k6, fun i hi => absurd hi (Nat.not_lt_zero _)⟩, ⟨k7, (kf 35 (by omega) (by omega)).trans q2.2.1, by show (gL A).1 + 1 ≤ 4; omega, tex, fun q hq => ?_⟩, ?_, ?_, ?_, ⟨?_, ?_⟩, ?_, ?_, ?_, ?_⟩, sm.2.2.2.2.2.trans fun a ha => ⟨kk a (by omega) (by omega) (by omega), by rw [kL], by rw [kR]⟩⟩
        · rw [kL, kk 582 (by omega) (by omega) (by omega)]
          rcases q2.2.2.2.2 q hq with z | ⟨i, p, w, d, m, s, h, b0, b1, b2, b3, b4, b5, b6, b7, b8⟩
          · exact Or.inl z
          · refine Or.inr ⟨i, p, w, d, m, s, h, by show i < (gL A).1 + 1; omega, b1, b2, b3, b4, b5, b6, b7, ?_⟩
            show _ = (if i = (gL A).1 then lkL r.1 else (gL A).2.1 i) _ _ _ _ _ _
            rw [if_neg (by omega)]
            exact b8
        · show MDay _ (gD A); unfold MDay; rw [kf 30 (by omega) (by omega), kk 577 (by omega) (by omega) (by omega), kk 576 (by omega) (by omega) (by omega)]; exact q3
        · exact ⟨fun k hk => by rw [kk 580 (by omega) (by omega) (by omega)]; exact q4'.1 k hk, by rw [kf 36 (by omega) (by omega)]; exact q4'.2⟩
        · exact q5.fr0 q6 q6' t8 b6 (fun k hk => kf k (by omega) (by omega)) (fun a ha => kk a (by omega) (by omega) (by omega))
        · rw [kf 39 (by omega) (by omega)]; exact q6
        · rw [kf 41 (by omega) (by omega)]; exact q6'
        · rw [kk 578 (by omega) (by omega) (by omega)]; exact q7
        · show MImg _ (gI A); unfold MImg; rw [kf 56 (by omega) (by omega), kk 589 (by omega) (by omega) (by omega)]; exact q8
        · show MHis _ (gH A); unfold MHis; rw [kf 44 (by omega) (by omega), kk 583 (by omega) (by omega) (by omega)]; exact q9
        · show MSee _ (gS A); unfold MSee; rw [kf 51 (by omega) (by omega), kk 585 (by omega) (by omega) (by omega)]; exact q10
