/-! an hour, the clerk, the rate, a gift -/
theorem h1S_hi {K : Cy} {T B N i : Nat} {w : Rw} (hK : CyOk K) (hT : cT K = T) (hB : cB K = B) (hw : Wf T B N w) (hi : 127 ≤ i) : h1S K w i = w i := by
  have h8 := hK.1
  have h6 := hK.2.1
  have it : ∀ (f : Rw → Nat → Rw) (v : Rw) (n : Nat), n ≤ B → Wf T B N v → (∀ b v, b < B → Wf T B N v → Wf T B N (f v b)) → (∀ b v, b < B → Wf T B N v → f v b i = v i) → itS f v n i = v i := by
    intro f v n
    induction n with
    | zero => intros; rfl
    | succ n ih =>
      intro hn hv h1 h2
      show f (itS f v n) n i = v i
      rw [h2 n _ (by omega) (itS_wf hv n fun b v hb => h1 b v (by omega))]
      exact ih (by omega) hv h1 h2
  have e1 : itS (hoS K) w B i = w i := it _ _ _ (Nat.le_refl _) hw (fun b v hb hv => hoS_wf hK hT (by omega) hv hb) fun b v hb hv => by
    unfold hoS
    rw [hT]
    rcases holdS_ty v T (nI b) with q | ⟨t, ht, hh⟩
    · rw [if_pos q]
    · rw [hh, if_neg (nI_ne_m1 (by omega)), nI_clamp (by omega)]
      split
      · split
        · exact upd_ne (by omega)
        · rw [baS_out hv (by omega) (by omega), drS_at (by omega) (by omega)]
      · rw [buS_out hv (by omega) (by omega) (by omega), bu0_at (by omega) (by omega) (by omega)]
  have w1 := itS_wf (f := hoS K) hw B fun b v hb hv => hoS_wf hK hT (by omega) hv hb
  have e2 : itS (seS K) (itS (hoS K) w B) B i = itS (hoS K) w B i := it _ _ _ (Nat.le_refl _) w1 (fun b v hb hv => seS_wf hK hT (by omega) hv hb) fun b v hb hv => by
    unfold seS
    rw [hT]
    split
    · rename_i q
      rcases faS_ty K v b T (by omega) with q3 | ⟨t, q3, q4, q5⟩
      · exact absurd q3 q.2.2
      · rw [q4, nI_clamp (by omega)]
        unfold pkS
        rw [upd_ne (by omega), upd_ne (by omega)]
    · rfl
  unfold h1S
  rw [hB, e2, e1]
theorem paH_wf2 {K : Cy} {T B N h : Nat} {w : Rw} (hK : CyOk K) (hT : cT K = T) (hB : cB K = B) (hw : Wf T B N w) (hh : w 130 = nI h) (hN : h + 1 < N) : Wf T B N (paH K w) ∧ paH K w 130 = nI (h + 1) := by
  have h8 := hK.1
  have h6 := hK.2.1
  have e0 := (h1S_hi hK hT hB hw (i := 130) (by omega)).trans hh
  have e1 : h2S K w 130 = nI (h + 1) := by unfold h2S; rw [upd_self, e0, nI_1]
  have w2 : Wf T B N (h2S K w) := by
    obtain ⟨q1, q2, q3, q4, q5⟩ := h1S_wf hK hT hB hw
    exact ⟨q1.congr fun i h6 h7 => by unfold h2S; exact upd_ne (by omega), q2.congr (by omega) fun i h => by unfold h2S; exact upd_ne (by omega), q3.congr (by omega) fun i h6 h7 => by unfold h2S; exact upd_ne (by omega), q4.congr (by unfold h2S; exact upd_ne (by omega)), ⟨h + 1, hN, e1⟩⟩
  unfold paH
  split
  · refine ⟨paS_wf hK hT hB w2, ?_⟩
    obtain ⟨n, n1, n2, -⟩ := w2.1
    rw [paS_vi (by omega) n1 n2, upd_ne (by omega), viS_lo (by omega), e1]
  · exact ⟨w2, e1⟩
theorem trS_ok {T B N : Nat} {w : Rw} (hB : B ≤ 6) (hw : Wf T B N w) (ht : TrOk w) : ∀ i, i ≤ B → ∃ t, t ≤ 9999 ∧ trS w i = nI t := by
  intro i
  induction i with
  | zero => intro _; exact ht
  | succ i ih =>
    intro hi
    obtain ⟨t, t1, t2⟩ := ih (by omega)
    obtain ⟨m, m1, m2⟩ := hw.2.2.1 i (by omega)
    obtain ⟨n, n1, n2, n3⟩ := hw.1
    obtain ⟨d, d1, d2⟩ := dueS_w (b := nI i) n1 n3
    show ∃ t, t ≤ 9999 ∧ imin 9999 (trS w i + imin (w (24 + i)) (dueS (fun k => w (30 + k)) (nI i) (mny w))) = nI t
    rw [mny_eq n1 n2, t2, m2, d2, imin_nI (by omega) (by omega), nI_add, show (9999 : Int32) = nI 9999 from rfl, imin_nI (by omega) (by omega)]
    exact ⟨_, by omega, rfl⟩
theorem paH_tr {K : Cy} {N : Nat} {w : Rw} (hK : CyOk K) (hw : Wf (cT K) (cB K) N w) (ht : TrOk w) : TrOk (paH K w) := by
  have h6 := hK.2.1
  have e1 : h2S K w 129 = w 129 := by unfold h2S; rw [upd_ne (by omega), h1S_hi hK rfl rfl hw (by omega)]
  have t1 : TrOk (h2S K w) := by unfold TrOk; rw [e1]; exact ht
  unfold paH
  split
  · obtain ⟨n, n1, n2, -⟩ := (h2S_wf hK rfl rfl hw).1
    unfold TrOk
    rw [paS_vi h6 n1 n2, upd_ne (by omega), viS_t h6]
    exact trS_ok h6 (h2S_wf hK rfl rfl hw) t1 _ (Nat.le_refl _)
  · exact t1
theorem RS.congr {σ : Mem} {o : Nat} {K : Cy} {w w' : Rw} (hT : cT K ≤ 8) (hB : cB K ≤ 6) (hr : RS σ o K w) (hm : ∃ n, n ≤ 24 ∧ w 126 = nI n) (h : ∀ i, i < 131 → w' i = w i) : RS σ o K w' := by
  obtain ⟨n, n1, n2⟩ := hm
  obtain ⟨r1, r2, r3, r4, r5, ⟨r6, r7, r8, r9, r10⟩, r11⟩ := hr
  have em : mny w' = mny w := by unfold mny; rw [h 126 (by omega)]
  refine ⟨fun t ht => by rw [h t (by omega), h (8 + t) (by omega), h (16 + t) (by omega)]; exact r1 t ht, r2, fun b hb => by rw [holdS_congr hT fun i hi => h i (by omega)]; exact r3 b hb, fun b hb => by rw [h (24 + b) (by omega)]; exact r4 b hb, fun i hi => ?_, ⟨by rw [h _ (by omega)]; exact r6, by rw [h _ (by omega)]; exact r7, by rw [h _ (by omega)]; exact r8, by rw [h _ (by omega)]; exact r9, by rw [h _ (by omega)]; exact r10⟩, r11⟩
  rw [em, mny_eq n1 n2] at hi
  rw [h _ (by omega)]
  exact r5 i (by rw [mny_eq n1 n2]; exact hi)
theorem Wf.congr {T B N : Nat} {w w' : Rw} (hT : T ≤ 8) (hB : B ≤ 6) (hw : Wf T B N w) (h : ∀ i, i < 131 → w' i = w i) : Wf T B N w' := ⟨hw.1.congr fun i _ h7 => h i (by omega), hw.2.1.congr hT fun i h7 => h i (by omega), hw.2.2.1.congr hB fun i _ h7 => h i (by omega), hw.2.2.2.1.congr (h _ (by omega)), hw.2.2.2.2.congr (h _ (by omega))⟩
theorem rwOk_lg {K : Cy} {w : Rw} {h : Int32} (hT : cT K ≤ 8) (hB : cB K ≤ 6) (hw : rwOk K w) : rwOk K (lgS w h) := by
  obtain ⟨n, n1, n2⟩ := hw.2.1
  refine ⟨hw.1.congr hT hB fun i hi => lgS_lo n1 n2 hi, ?_, by unfold TrOk; rw [lgS_lo n1 n2 (by omega)]; exact hw.2.2⟩
  unfold lgS
  rw [lnS_eq n1 n2]
  by_cases q : n = 60
  · rw [if_pos q]; exact ⟨60, by omega, lad_n⟩
  · rw [if_neg q]; exact ⟨n + 1, by omega, lad_n⟩
theorem sim_hour : Sim f_Game_hour f_Model_hour := fun A hA => by
  have t8 := hA.T8
  have b6 := hA.B6
  have l130 : (130 : Int32).toNatClampNeg = 130 := by decide
  rcases hA.cs with p | hc
  · refine ⟨-1, sM A (stU (gM A) 0), gOk_M hA, fun σ hC => ?_, fun σ hM => ?_⟩
    · obtain ⟨g1, g2, g3⟩ := Game_refused (r := 0) hA hC (by omega)
      refine ⟨_, ?_, g2, g3⟩
      unfold f_Game_hour f_Trade_whyNotHour
      rw [Trade_hasCity hC.k t8, if_pos p.1, Option.bind_some, if_pos rfl, Option.bind_some, show f_Game_refused σ (0 : Int32) = _ from g1]; rfl
    · have hz := hM.z (v := 0) hA
      obtain ⟨g1, g2, g3⟩ := Model_refused (r := 0) hA hz (by omega)
      refine ⟨_, ?_, g2, (SM_0 (v := 0) hM).2.2.2.2.2.trans g3⟩
      unfold f_Model_hour
      rw [hz.k.2.1, p.2.1, if_pos (show nI 0 = (0 : Int32) from rfl), show f_Model_refused (sI σ 565 0 0) (0 : Int32) = _ from g1]; rfl
  · obtain ⟨h, h1, h2⟩ := hc.2.2.2.1.1.2.2.2.2
    have hT1 := hc.1
    have hB1 := hc.2.1
    have cw : ∀ σ, CRel σ A → f_Trade_whyNotHour σ 6 = some (if h < 9999 then -1 else 5) := fun σ hC => by
      rw [Trade_whyNotHour t8 hC.k (hC.n hc).1 h2 (by omega), if_neg (by omega)]
    have mw : ∀ σ, MRel σ A → mI (sI σ 565 0 0) 565 27 ≠ 0 ∧ mI (sI σ 565 0 0) 578 130 = nI h := fun σ hM => by
      have hz := hM.z (v := 0) hA
      rw [hz.k.2.1, hz.w]
      exact ⟨nI_ne0 (by omega) (by omega), h2⟩
    by_cases q : h < 9999
    · obtain ⟨k1, k2⟩ := gOk_keep hA hc
      obtain ⟨w1, w2⟩ := paH_wf2 hc.2.2.1 rfl rfl hc.2.2.2.1.1 h2 (by omega)
      obtain ⟨n, n1, n2⟩ := hc.2.2.2.1.2.1
      have n3 : paH (gK A) (gW A) 131 = nI n := (paH_hi hc.2.2.1 rfl rfl hc.2.2.2.1.1 (by omega)).trans n2
      have rw1 : rwOk (gK A) (paH (gK A) (gW A)) := ⟨w1, ⟨n, n1, n3⟩, paH_tr hc.2.2.1 hc.2.2.2.1.1 hc.2.2.2.1.2.2⟩
      have hb6 := hbS_6 b6 w1
      refine ⟨hbS (paH (gK A) (gW A)) (cT (gK A)) (cB (gK A)), sW (sH A (hpush (gH A) (gW A))) (lgS (paH (gK A) (gW A)) (hbS (paH (gK A) (gW A)) (cT (gK A)) (cB (gK A)))), gOk_W k1 k2 (rwOk_lg t8 b6 rw1), fun σ hC => ?_, fun σ hM => ?_⟩
      · obtain ⟨σ1, g1, g2, g3⟩ := History_keep hA hC hc
        obtain ⟨σ2, g4, g5, g6⟩ := Trade_passHour k1.J hc.2.2.1 g2.k ok6 g2.j (g2.n k2).1 hc.2.2.2.1.1 (by omega)
        have hg := g6 (g2.n k2).2
        have hs : f_State_holders σ2 6 = some (hbS (paH (gK A) (gW A)) (cT (gK A)) 6) := State_holders g5.1
        have hg' : RG σ2 6 (lgS (paH (gK A) (gW A)) (hbS (paH (gK A) (gW A)) (cT (gK A)) 6)) := hg
        rw [hb6] at hs hg'
        obtain ⟨m, m1, m2, -⟩ := w1.1
        obtain ⟨g7, g8⟩ := g2.setw (w := lgS (paH (gK A) (gW A)) (hbS (paH (gK A) (gW A)) (cT (gK A)) (cB (gK A)))) k2 (RS.congr (K := gK A) t8 b6 g5.1 ⟨m, m1, m2⟩ fun i hi => lgS_lo n1 n3 hi) hg' g5.2.1 k1.2.1.1 k1.2.2.1.1
        refine ⟨σ2, ?_, g7, g3.trans g8⟩
        unfold f_Game_hour
        rw [cw σ hC, if_pos q, Option.bind_some, Game_ref_m1, Option.bind_some]
        refine Eq.trans (if_pos rfl) ?_
        rw [g1, Option.bind_some, g4, Option.bind_some, hs]; rfl
      · have hz := hM.z (v := 0) hA
        obtain ⟨σ1, g1, g2, g3⟩ := Model_remember hA hz
        obtain ⟨σ2, g4, g5⟩ := Model_goNow (n := n) (N := 10000) k1.I hc.2.2.1 g2.k g2.i (by rw [g2.w]; exact hc.2.2.2.1.1) (by omega) n1 (by rw [g2.w]; exact n2)
        rw [g2.w] at g4 g5
        obtain ⟨g6, g7⟩ := g2.mr g5
        refine ⟨σ2, ?_, g6, ((SM_0 (v := 0) hM).2.2.2.2.2.trans g3).trans g7⟩
        unfold f_Model_hour
        rw [if_neg (mw σ hM).1, l130, (mw σ hM).2, if_neg (show ¬ nI h = (9999 : Int32) from fun e => by have := nI_inj6 (b := 9999) (by omega) (by omega) e; omega), g1, Option.bind_some, show f_Model_goNow σ1 = _ from g4]; rfl
    · refine ⟨-1, sM A (stU (gM A) 5), gOk_M hA, fun σ hC => ?_, fun σ hM => ?_⟩
      · obtain ⟨g1, g2, g3⟩ := Game_refused (r := 5) hA hC (by omega)
        refine ⟨_, ?_, g2, g3⟩
        unfold f_Game_hour
        rw [cw σ hC, if_neg q, Option.bind_some, show f_Game_refused σ (5 : Int32) = _ from g1]; rfl
      · have hz := hM.z (v := 0) hA
        obtain ⟨g1, g2, g3⟩ := Model_refused (r := 5) hA hz (by omega)
        refine ⟨_, ?_, g2, (SM_0 (v := 0) hM).2.2.2.2.2.trans g3⟩
        have : h = 9999 := by omega
        subst this
        unfold f_Model_hour
        rw [if_neg (mw σ hM).1, l130, (mw σ hM).2, if_pos (show nI 9999 = (9999 : Int32) from rfl), show f_Model_refused (sI σ 565 0 0) (5 : Int32) = _ from g1]; rfl
