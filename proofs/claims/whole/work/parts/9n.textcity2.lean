/-! a city told: the reference settles it; text -/
theorem settle_m {A : Gh} {σ : Mem} {s : ciT} {lk : Lk6} (hM : MRel σ A) (hs : MCi s σ) (ho : okCi s) : ∃ σ' R W F, ((loopF (f_Model_text_L223 0) FU ((sI (sI (sI σ 565 6 (0 : Int32)) 565 26 (mI (sI σ 565 6 (0 : Int32)) 565 28)) 565 27 (mI (sI (sI σ 565 6 (0 : Int32)) 565 26 (mI (sI σ 565 6 (0 : Int32)) 565 28)) 565 29)), (0 : Int32))).bind fun w11 => (loopF (f_Model_text_L248 0) FU (w11, (0 : Int32))).bind fun w14 => loopF (f_Model_text_L274 0) FU (w14, (0 : Int32))) = some (nI s.2.1.1, σ') ∧ mI σ' 570 = R ∧ mI σ' 572 = W ∧ mI σ' 574 = F ∧ (∀ k, k < 4 → R k = s.2.2.1 k) ∧ (∀ k, k < 3 * s.2.1.1 → W k = s.2.2.2.1 k) ∧ (∀ k, k < 4 * s.2.1.2 → F k = s.2.2.2.2 k) ∧ (∀ j, mI σ' 578 j = if j < 312 then laS (ctK s.2.1.1 s.2.1.2 R W F lk) j else mI σ 578 j) ∧ mI σ' 565 6 = 0 ∧ mI σ' 565 26 = nI s.2.1.1 ∧ mI σ' 565 27 = nI s.2.1.2 ∧ mI σ' 565 51 = 0 ∧ mI σ' 565 44 = 0 ∧ mI σ' 565 56 = 0 ∧ (∀ k, ¬ (k = 6 ∨ k = 26 ∨ k = 27 ∨ k = 51 ∨ k = 44 ∨ k = 56) → mI σ' 565 k = mI σ 565 k) ∧ (∀ c, c ≠ 565 → c ≠ 570 → c ≠ 572 → c ≠ 574 → c ≠ 578 → mI σ' c = mI σ c) ∧ mL σ' = mL σ ∧ mR σ' = mR σ := by
  have ho1 := ho.1
  have ho2 := ho.2.1
  obtain ⟨s1, s2, s3, s4, s5, s6⟩ := hs
  have e0 : sI (sI (sI σ 565 6 (0 : Int32)) 565 26 (mI (sI σ 565 6 (0 : Int32)) 565 28)) 565 27 (mI (sI (sI σ 565 6 (0 : Int32)) 565 26 (mI (sI σ 565 6 (0 : Int32)) 565 28)) 565 29) = sI (sI (sI σ 565 6 (0 : Int32)) 565 26 (nI s.2.1.1)) 565 27 (nI s.2.1.2) := by rw [row_sI _ 565 6, upd_ne (by omega), s1, row_sI _ 565 26, upd_ne (by omega), row_sI _ 565 6, upd_ne (by omega), s2]
  rw [e0]
  have t5 : ∀ k, k ≠ 6 → k ≠ 26 → k ≠ 27 → mI (sI (sI (sI σ 565 6 (0 : Int32)) 565 26 (nI s.2.1.1)) 565 27 (nI s.2.1.2)) 565 k = mI σ 565 k := fun k h1 h2 h3 => by rw [row_sI _ 565 27, upd_ne h3, row_sI _ 565 26, upd_ne h2, row_sI, upd_ne h1]
  have t6 : mI (sI (sI (sI σ 565 6 (0 : Int32)) 565 26 (nI s.2.1.1)) 565 27 (nI s.2.1.2)) 565 6 = 0 := by rw [row_sI _ 565 27, upd_ne (by omega), row_sI _ 565 26, upd_ne (by omega), row_sI, upd_self]
  have t26 : mI (sI (sI (sI σ 565 6 (0 : Int32)) 565 26 (nI s.2.1.1)) 565 27 (nI s.2.1.2)) 565 26 = nI s.2.1.1 := by rw [row_sI _ 565 27, upd_ne (by omega), row_sI, upd_self]
  have t27 : mI (sI (sI (sI σ 565 6 (0 : Int32)) 565 26 (nI s.2.1.1)) 565 27 (nI s.2.1.2)) 565 27 = nI s.2.1.2 := by rw [row_sI, upd_self]
  have tc : ∀ c, c ≠ 565 → mI (sI (sI (sI σ 565 6 (0 : Int32)) 565 26 (nI s.2.1.1)) 565 27 (nI s.2.1.2)) c = mI σ c := fun c hc => by rw [row_ne hc, row_ne hc, row_ne hc]
  have tL : mL (sI (sI (sI σ 565 6 (0 : Int32)) 565 26 (nI s.2.1.1)) 565 27 (nI s.2.1.2)) = mL σ := rfl
  have tR : mR (sI (sI (sI σ 565 6 (0 : Int32)) 565 26 (nI s.2.1.1)) 565 27 (nI s.2.1.2)) = mR σ := rfl
  generalize sI (sI (sI σ 565 6 (0 : Int32)) 565 26 (nI s.2.1.1)) 565 27 (nI s.2.1.2) = τ0 at t5 t6 t26 t27 tc tL tR
  have l1 := fill_loop (step := f_Model_text_L223 0) (σ := τ0) (a := 570) (n := 4) (v := fun j => mI τ0 571 j) (by omega) (fun f i hi => by
    unfold f_Model_text_L223
    dsimp only
    rw [if_neg (show ¬ (4 : Int32) ≤ nI i from nI_ge (b := 4) hi (by omega)), if_pos (inb_nI hi (by decide)), nI_clamp (by omega), nI_1, rowr_ne (show (571 : Nat) ≠ 570 by omega)]) (fun f => by
    unfold f_Model_text_L223
    dsimp only
    rw [if_pos (show (4 : Int32) ≤ nI 4 by decide)])
  rw [l1, Option.bind_some]
  have a1 : ∀ c, c ≠ 570 → mI (rI τ0 570 fun j => if j < 4 then mI τ0 571 j else mI τ0 570 j) c = mI τ0 c := fun c hc => rowr_ne hc
  have a2 : ∀ k, k < 4 → mI (rI τ0 570 fun j => if j < 4 then mI τ0 571 j else mI τ0 570 j) 570 k = mI τ0 571 k := fun k hk => by rw [rowr_self, if_pos hk]
  have aL : mL (rI τ0 570 fun j => if j < 4 then mI τ0 571 j else mI τ0 570 j) = mL τ0 := rfl
  have aR : mR (rI τ0 570 fun j => if j < 4 then mI τ0 571 j else mI τ0 570 j) = mR τ0 := rfl
  generalize (rI τ0 570 fun j => if j < 4 then mI τ0 571 j else mI τ0 570 j) = τ1 at a1 a2 aL aR
  have l2 := fill_loop (step := f_Model_text_L248 0) (σ := τ1) (a := 572) (n := 24) (v := fun j => mI τ1 573 j) (by omega) (fun f i hi => by
    unfold f_Model_text_L248
    dsimp only
    rw [if_neg (show ¬ (24 : Int32) ≤ nI i from nI_ge (b := 24) hi (by omega)), if_pos (inb_nI hi (by decide)), nI_clamp (by omega), nI_1, rowr_ne (show (573 : Nat) ≠ 572 by omega)]) (fun f => by
    unfold f_Model_text_L248
    dsimp only
    rw [if_pos (show (24 : Int32) ≤ nI 24 by decide)])
  rw [l2, Option.bind_some]
  have b1 : ∀ c, c ≠ 572 → mI (rI τ1 572 fun j => if j < 24 then mI τ1 573 j else mI τ1 572 j) c = mI τ1 c := fun c hc => rowr_ne hc
  have b2 : ∀ k, k < 24 → mI (rI τ1 572 fun j => if j < 24 then mI τ1 573 j else mI τ1 572 j) 572 k = mI τ1 573 k := fun k hk => by rw [rowr_self, if_pos hk]
  have bL : mL (rI τ1 572 fun j => if j < 24 then mI τ1 573 j else mI τ1 572 j) = mL τ1 := rfl
  have bR : mR (rI τ1 572 fun j => if j < 24 then mI τ1 573 j else mI τ1 572 j) = mR τ1 := rfl
  generalize (rI τ1 572 fun j => if j < 24 then mI τ1 573 j else mI τ1 572 j) = τ2 at b1 b2 bL bR
  have d1 : ∀ c, c ≠ 574 → mI (rI τ2 574 fun j => if j < 24 then mI τ2 575 j else mI τ2 574 j) c = mI τ2 c := fun c hc => rowr_ne hc
  have d2 : ∀ k, k < 24 → mI (rI τ2 574 fun j => if j < 24 then mI τ2 575 j else mI τ2 574 j) 574 k = mI τ2 575 k := fun k hk => by rw [rowr_self, if_pos hk]
  have dL : mL (rI τ2 574 fun j => if j < 24 then mI τ2 575 j else mI τ2 574 j) = mL τ2 := rfl
  have dR : mR (rI τ2 574 fun j => if j < 24 then mI τ2 575 j else mI τ2 574 j) = mR τ2 := rfl
  have l3 := fun r => fill_to (step := f_Model_text_L274 0) (σ := τ2) (a := 574) (n := 24) (v := fun j => mI τ2 575 j) (r := r) (by omega) (fun f i hi => by
    unfold f_Model_text_L274
    dsimp only
    rw [if_neg (show ¬ (24 : Int32) ≤ nI i from nI_ge (b := 24) hi (by omega)), if_pos (inb_nI hi (by decide)), nI_clamp (by omega), nI_1, rowr_ne (show (575 : Nat) ≠ 574 by omega)])
  generalize hτ3 : (rI τ2 574 fun j => if j < 24 then mI τ2 575 j else mI τ2 574 j) = τ3 at d1 d2 dL dR l3
  have cell : ∀ c, c ≠ 565 → c ≠ 570 → c ≠ 572 → c ≠ 574 → mI τ3 c = mI σ c := fun c h1 h2 h3 h4 => by rw [d1 c h4, b1 c h3, a1 c h2, tc c h1]
  have c5 : mI τ3 565 = mI τ0 565 := by rw [d1 565 (by omega), b1 565 (by omega), a1 565 (by omega)]
  obtain ⟨τ4, g1, g2, g3⟩ := Model_lays (K := ctK s.2.1.1 s.2.1.2 (mI τ3 570) (mI τ3 572) (mI τ3 574) lk) (σ := τ3) (a := 578) (n := 312) (by decide +kernel) (by omega) (by omega) (Or.inl rfl) (by rw [c5]; exact t27) rfl rfl ho2
  have hstep : f_Model_text_L274 0 (τ3, nI 24) = some (.inr (nI s.2.1.1, sI (sI (sI τ4 565 51 (0 : Int32)) 565 44 (0 : Int32)) 565 56 (0 : Int32))) := by
    unfold f_Model_text_L274
    dsimp only
    rw [if_pos (show (24 : Int32) ≤ nI 24 by decide), g1, Option.bind_some, row_sI _ 565 56, upd_ne (by omega), row_sI _ 565 44, upd_ne (by omega), row_sI _ 565 51, upd_ne (by omega), g3.1 565 (by omega), c5, t26]
  have k5 : ∀ k, k ≠ 51 → k ≠ 44 → k ≠ 56 → mI (sI (sI (sI τ4 565 51 (0 : Int32)) 565 44 (0 : Int32)) 565 56 (0 : Int32)) 565 k = mI τ0 565 k := fun k h1 h2 h3 => by rw [row_sI _ 565 56, upd_ne h3, row_sI _ 565 44, upd_ne h2, row_sI _ 565 51, upd_ne h1, g3.1 565 (by omega), c5]
  have kc : ∀ c, c ≠ 565 → c ≠ 578 → mI (sI (sI (sI τ4 565 51 (0 : Int32)) 565 44 (0 : Int32)) 565 56 (0 : Int32)) c = mI τ3 c := fun c h1 h2 => by rw [row_ne h1, row_ne h1, row_ne h1, g3.1 c h2]
  refine ⟨sI (sI (sI τ4 565 51 (0 : Int32)) 565 44 (0 : Int32)) 565 56 (0 : Int32), mI τ3 570, mI τ3 572, mI τ3 574, l3 _ hstep, kc 570 (by omega) (by omega), kc 572 (by omega) (by omega), kc 574 (by omega) (by omega), fun k hk => ?_, fun k hk => ?_, fun k hk => ?_, fun j => ?_, ?_, ?_, ?_, ?_, ?_, ?_, fun k hk => ?_, fun c h1 h2 h3 h4 h5 => ?_, ?_, ?_⟩
  · rw [d1 570 (by omega), b1 570 (by omega), a2 k hk, tc 571 (by omega)]; exact s4 k hk
  · rw [d1 572 (by omega), b2 k (by omega), a1 573 (by omega), tc 573 (by omega)]; exact s5 k hk
  · rw [d2 k (by omega), b1 575 (by omega), a1 575 (by omega), tc 575 (by omega)]; exact s6 k hk
  · rw [row_ne (by omega), row_ne (by omega), row_ne (by omega), g2 j, cell 578 (by omega) (by omega) (by omega) (by omega)]
  · rw [k5 6 (by omega) (by omega) (by omega)]; exact t6
  · rw [k5 26 (by omega) (by omega) (by omega)]; exact t26
  · rw [k5 27 (by omega) (by omega) (by omega)]; exact t27
  · rw [row_sI _ 565 56, upd_ne (by omega), row_sI _ 565 44, upd_ne (by omega), row_sI, upd_self]
  · rw [row_sI _ 565 56, upd_ne (by omega), row_sI, upd_self]
  · rw [row_sI, upd_self]
  · rw [k5 k (by omega) (by omega) (by omega)]; exact t5 k (by omega) (by omega) (by omega)
  · rw [kc c h1 h5]; exact cell c h1 h2 h3 h4
  · rw [mL_sI, mL_sI, mL_sI, g3.2.1, dL, bL, aL, tL]
  · rw [mR_sI, mR_sI, mR_sI, g3.2.2, dR, bR, aR, tR]
theorem text_city {A : Gh} {σ : Mem} (hA : gOk A) (hC : CRel σ A) (hM : MRel σ A) : Sim2A A σ (fun σ => f_Game_text σ 0) (fun σ => f_Model_text σ 0) := by
  have t240 := hA.1.1
  have m0 : ∀ τ, f_Model_text τ 0 = f_Model_text_J43 (sI τ 565 0 0) 0 := fun τ => by
    unfold f_Model_text f_Model_text_J30
    rw [show (2 : Int64) = lN 2 from rfl, show (0 : Int64) = lN 0 from rfl, Model_isInR (by omega) (by omega), Option.bind_some, if_neg (show ¬ isR 0 2 0 = 0 by decide), if_neg (show ¬ (0 : Int32) = 1 by decide), if_neg (show ¬ (0 : Int32) = 2 by decide)]
  obtain ⟨co1, co2⟩ := ciA_ok hA
  cases hq : (ciA A).2 with
  | none =>
    have hn := ft_none hq (by omega)
    refine SimA.two (SimA.ro hA ⟨-1, fun σ hC => ?_, fun σ hM => ?_⟩) hA hC hM
    · obtain ⟨σ', g1, g2, -⟩ := fault_city_c hA hC
      refine ⟨σ', ?_, g2⟩
      show f_Game_text σ 0 = _
      unfold f_Game_text
      rw [g1, Option.bind_some]
      dsimp only
      rw [if_neg hn]
    · have hz := hM.z (v := 0) hA
      obtain ⟨σ', g1, g2, -⟩ := fault_city_m hA hz
      refine ⟨σ', ?_, (SM_0 (v := 0) hM).trans g2⟩
      show f_Model_text σ 0 = _
      rw [m0]
      unfold f_Model_text_J43
      rw [g1, Option.bind_some]
      dsimp only
      rw [if_neg hn]
  | some s =>
    have hft := ft_some hq
    obtain ⟨ho, hT, hB⟩ := co2 s hq
    have ho1 := ho.1
    have ho2 := ho.2.1
    -- the class
    obtain ⟨σ1, g1, g2, g3, g4⟩ := fault_city_c hA hC
    have hC1 := hC.scr g2
    obtain ⟨c1, c2, c3, c4, c5, c6, c7, c8, c9, c10⟩ := hC1
    have hs1 : CCi (mR σ1 0 11) s σ1 := by rw [g3]; exact g4 s hq
    obtain ⟨σ2, k1, k2, k3, k4, k5, k6, k7, k8, k9, k10, k11, k12, k13, k14, k15⟩ := settle_c hA (hC.scr g2) hs1 ho
    have fG : f_Game_text σ 0 = some (nI s.2.1.1, σ2) := by
      unfold f_Game_text
      rw [g1, Option.bind_some]
      dsimp only
      rw [if_pos hft, if_pos (show (0 : Int32) = 0 from rfl), k1]
      rfl
    -- the reference
    have hM2 := hM.hi hA (g2.hi.trans k2)
    have hz := hM2.z (v := 0) hA
    obtain ⟨σ3, p1, p2, p3⟩ := fault_city_m hA hz
    have hM3 := hz.scr hA p2
    obtain ⟨σ4, R, W, F, q1, q2, q3, q4, q5, q6, q7, q8, q9, q10, q11, q12, q13, q14, q15, q16, q17, q18⟩ := settle_m (lk := cL (gK A)) hM3 (p3 s hq) ho
    have fM : f_Model_text σ2 0 = some (nI s.2.1.1, σ4) := by
      rw [m0]
      unfold f_Model_text_J43
      rw [p1, Option.bind_some]
      dsimp only
      rw [if_pos hft, if_neg (show ¬ (0 : Int32) = 1 by decide), if_neg (show ¬ (0 : Int32) = 2 by decide)]
      exact q1
    have lo : EqLo σ2 σ4 := ((SM_0 (v := 0) hM2).2.2.2.2.2.trans p2.2.2.2.2.2).trans fun a ha => ⟨q16 a (by omega) (by omega) (by omega) (by omega) (by omega), by rw [q17], by rw [q18]⟩
    have kk : ∀ a, a < 565 → mI σ4 a = mI σ2 a := fun a ha => (lo a (by omega)).1
    have kR : ∀ a, a < 565 → mR σ4 a = mR σ2 a := fun a ha => (lo a (by omega)).2.2
    have hK := ctK_ok (R := R) (W := W) (F := F) (lk := cL (gK A)) ho q5 q6 q7
    have la := laS_wf hK
    have hw : ∀ i, i < 131 → mI σ4 578 i = laS (ctK s.2.1.1 s.2.1.2 R W F (cL (gK A))) i := fun i hi => by rw [q8 i, if_pos (by omega)]
    have ls : ∀ i, laS (ctK s.2.1.1 s.2.1.2 R W F (cL (gK A))) i = laS (ctK s.2.1.1 s.2.1.2 s.2.2.1 s.2.2.2.1 s.2.2.2.2 (cL (gK A))) i := fun i => by
      unfold laS
      show (if i < 8 then -1 else if 24 ≤ i ∧ i < 24 + s.2.1.2 then F (4 * (i - 24)) else if i = 127 then R 0 else 0) = (if i < 8 then -1 else if 24 ≤ i ∧ i < 24 + s.2.1.2 then s.2.2.2.2 (4 * (i - 24)) else if i = 127 then s.2.2.1 0 else 0)
      by_cases e1 : i < 8
      · rw [if_pos e1, if_pos e1]
      · rw [if_neg e1, if_neg e1]
        by_cases e2 : 24 ≤ i ∧ i < 24 + s.2.1.2
        · rw [if_pos e2, if_pos e2, q7 _ (by omega)]
        · rw [if_neg e2, if_neg e2, q5 0 (by omega)]
    have w126 : mI σ4 578 126 = 0 := by rw [hw 126 (by omega)]; exact laS_0 ho2 (by omega)
    have w129 : mI σ4 578 129 = 0 := by rw [hw 129 (by omega)]; exact laS_0 ho2 (by omega)
    have w130 : mI σ4 578 130 = 0 := by rw [hw 130 (by omega)]; exact laS_0 ho2 (by omega)
    have w131 : mI σ4 578 131 = 0 := by rw [q8 131, if_pos (by omega)]; exact laS_0 ho2 (by omega)
    have rs : RS σ4 6 (ctK s.2.1.1 s.2.1.2 R W F (cL (gK A))) (mI σ4 578) := by
      refine RS.congr (w := laS (ctK s.2.1.1 s.2.1.2 s.2.2.1 s.2.2.2.1 s.2.2.2.2 (cL (gK A)))) ho1 ho2 ?_ ⟨0, by omega, laS_0 ho2 (by omega)⟩ fun i hi => (hw i hi).trans (ls i)
      refine RS_K (K := ctK s.2.1.1 s.2.1.2 s.2.2.1 s.2.2.2.1 s.2.2.2.2 (cL (gK A))) (k3.fr fun a h1 h2 => kk a (by omega)) rfl rfl (fun t ht => ?_) (fun b hb => ?_)
      · have ht : t < s.2.1.1 := ht
        exact q6 _ (by omega)
      · have hb : b < s.2.1.2 := hb
        exact q7 _ (by omega)
    have e610 : mI σ4 6 10 = 0 := by rw [kk 6 (by omega)]; exact k4
    have r6 := rs.2.2.2.2.2.1
    have cc := c6.c
    have cd : mR σ1 0 11 = 430 ∨ mR σ1 0 11 = 536 := by rcases c6 with h | h <;> omega
    obtain ⟨u1, u2, u3, u4, u5, u6⟩ := k5
    refine ⟨nI s.2.1.1, ((0, (gT A).2), gL A, gD A, gM A, ctK s.2.1.1 s.2.1.2 R W F (cL (gK A)), mI σ4 578, (0, (gI A).2), (0, (gH A).2), (0, (gS A).2)), σ2, σ4, fG, fM, ⟨⟨Nat.zero_le _, fun i hi => absurd hi (Nat.not_lt_zero _)⟩, hA.2.1, hA.2.2.1, hA.2.2.2.1, fun _ _ => rfl, fun _ _ => rfl, Or.inl rfl, Nat.zero_le _, Nat.zero_le _, Or.inr ⟨hT, hB, hK, ⟨(la.mono (by omega)).congr ho1 ho2 hw, ⟨0, by omega, w131⟩, 0, by omega, w129⟩, fun h => absurd h (show ¬ (0 : Int32) = 1 by decide), fun j hj => absurd hj (Nat.not_lt_zero _), fun i hi => absurd hi (Nat.not_lt_zero _)⟩⟩, ?_, ?_⟩
    · refine ⟨⟨?_, fun i hi => absurd hi (Nat.not_lt_zero _)⟩, ?_, ?_, ?_, ⟨?_, ?_, ?_, ?_, fun k hk => ?_, fun k hk => ?_, fun k hk => ?_⟩, ?_, ⟨⟨?_, ?_, ?_, ?_, ?_⟩, fun _ => ⟨rs, ⟨0, by omega, w131⟩, ?_, fun i hi => ?_⟩⟩, ⟨?_, fun h => absurd h (show ¬ (0 : Int32) = 1 by decide)⟩, ⟨?_, 0, by omega, ?_, fun j hj => absurd hj (Nat.not_lt_zero _)⟩, ⟨?_, fun i hi => absurd hi (Nat.not_lt_zero _)⟩⟩
      · rw [kk 1 (by omega), k9]; rfl
      · have l4 := hA.2.1.1
        exact c2.fr (by rw [kk 0 (by omega), k14 12 (by omega)]) (by rw [kk 0 (by omega), k14 13 (by omega)]) (fun i hi => ⟨by rw [kk _ (by omega), k15 _ (by omega)], by rw [kk _ (by omega), k15 _ (by omega)]⟩) (by rw [kR 428 (by omega), k8])
      · have d4 := hA.2.2.1.1
        exact c3.fr (by rw [kk 0 (by omega), k14 14 (by omega)]) (fun i hi => ⟨by rw [kk _ (by omega), k15 _ (by omega)], by rw [kk _ (by omega), k15 _ (by omega)]⟩)
      · exact c4.fr (by rw [kk 0 (by omega), k14 15 (by omega)]) (by rw [kk 5 (by omega), k15 5 (by omega)])
      · rw [kR 428 (by omega), k6]; rcases cd with h | h <;> rw [h] <;> decide +kernel
      · rw [kR 428 (by omega), k6]; omega
      · rw [kR 428 (by omega), k6, kk _ (by omega)]; exact u1
      · rw [kR 428 (by omega), k6, kk _ (by omega)]; exact u2
      · rw [kR 428 (by omega), k6, kk _ (by omega), u4 k hk]; exact (q5 k hk).symm
      · have hk : k < 3 * s.2.1.1 := hk
        rw [kR 428 (by omega), k6, kk _ (by omega), u5 k hk]; exact (q6 k hk).symm
      · have hk : k < 4 * s.2.1.2 := hk
        rw [kR 428 (by omega), k6, kk _ (by omega), u6 k hk]; exact (q7 k hk).symm
      · unfold CDra
        rw [kR 428 (by omega), kR 0 (by omega), k6, k7]
        rcases c6 with h | h
        · exact Or.inr ⟨h.2, h.1⟩
        · exact Or.inl ⟨h.2, h.1⟩
      · exact r6.1
      · rw [e610]; exact w131.symm
      · exact r6.2.1
      · exact r6.2.2.2.1
      · exact r6.2.2.2.2
      · rw [e610]; exact w131.symm
      · have hi : i < 3 * lnS (mI σ4 578) := hi
        rw [lnS_eq (n := 0) (by omega) w131] at hi; omega
      · rw [kk 0 (by omega)]; exact k10
      · rw [kk 26 (by omega), k12]; rfl
      · rw [kk 26 (by omega), k11]; rfl
      · rw [kk 516 (by omega), k13]; rfl
    · obtain ⟨w1, w2, w3, w4, w5, ⟨w6, w6'⟩, w7, w8, w9, w10⟩ := hM3
      refine ⟨⟨?_, fun i hi => absurd hi (Nat.not_lt_zero _)⟩, ⟨?_, ?_, ?_⟩, ?_, ⟨fun k hk => ?_, ?_⟩, ⟨q10, q11, q2, q3, q4, fun t ht => ?_, fun b hb => ?_⟩, ⟨?_, ?_⟩, rfl, ⟨q14, fun h => absurd h (show ¬ (0 : Int32) = 1 by decide)⟩, ⟨q13, fun j hj => absurd hj (Nat.not_lt_zero _)⟩, ⟨q12, fun i hi => absurd hi (Nat.not_lt_zero _)⟩⟩
      · rw [q9]; rfl
      · rw [q15 7 (by omega)]; exact w2.1
      · rw [q15 35 (by omega)]; exact w2.2.1
      · exact w2.2.2.fr (q16 _ (by omega) (by omega) (by omega) (by omega) (by omega)) (q16 _ (by omega) (by omega) (by omega) (by omega) (by omega)) (by rw [q17]) (q16 _ (by omega) (by omega) (by omega) (by omega) (by omega))
      · show MDay _ (gD A); unfold MDay; rw [q15 30 (by omega), q16 577 (by omega) (by omega) (by omega) (by omega) (by omega), q16 576 (by omega) (by omega) (by omega) (by omega) (by omega)]; exact w3
      · rw [q16 580 (by omega) (by omega) (by omega) (by omega) (by omega)]; exact w4.1 k hk
      · rw [q15 36 (by omega)]; exact w4.2
      · have ht : t < s.2.1.1 := ht
        rw [q15 41 (by omega), w6', if_neg (nI_ne_m1 (by omega))]; rfl
      · have hb : b < s.2.1.2 := hb
        rw [q15 39 (by omega), w6, if_neg (nI_ne_m1 (by omega))]; rfl
      · rw [q15 39 (by omega)]; exact w6
      · rw [q15 41 (by omega)]; exact w6'
