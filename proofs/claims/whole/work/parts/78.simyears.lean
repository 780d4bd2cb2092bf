/-! years -/
theorem History_keep_L {σ σ' : Mem} {A : Gh} (hA : gOk A) (hC : CRel σ A) (h : hasC A) (e : f_History_keep σ 6 = some σ') : mL σ' = mL σ := by
  have h40 := hA.2.2.2.2.2.2.2.1
  obtain ⟨hr, hg⟩ := hC.n h
  obtain ⟨h9, f, f1, f2, f3⟩ := hC.2.2.2.2.2.2.2.2.1
  have hix : (nI f + nI (gH A).1) - (nI f + nI (gH A).1) / (40 : Int32) * (40 : Int32) = nI ((f + (gH A).1) % 40) := by
    rw [nI_add, show (40 : Int32) = nI 40 from rfl, pk_rem (by omega) (by omega) (by omega)]
  have hm : (f + (gH A).1) % 40 < 40 := Nat.mod_lt _ (by omega)
  obtain ⟨σ1, g1, g2, g3, g4, g5, g6, g7⟩ := State_copyFrom (o := 28 + 10 * ((f + (gH A).1) % 40)) (p := 6) (by omega) hA.T8 hA.B6 hr h.2.2.2.1.1
  unfold f_History_keep at e
  rw [f2, h9, hix, if_pos (inb_nI hm (by omega)), nI_clamp (by omega), ra27, g1, Option.bind_some] at e
  split at e
  · cases e; rw [mL_sI, g5]
  · cases e; rw [mL_sI, g5]
theorem Model_remember_L {σ σ' : Mem} {A : Gh} (hA : gOk A) (hM : MRel σ A) (e : f_Model_remember σ = some σ') : mL σ' = mL σ := by
  have h40 := hA.2.2.2.2.2.2.2.1
  have hh := hM.2.2.2.2.2.2.2.2.1
  unfold f_Model_remember at e
  by_cases q : (gH A).1 = 40
  · rw [hh.1, if_pos (show nI (gH A).1 = (40 : Int32) by rw [q]; rfl), Model_remember_L11, Option.bind_some, rowr_ne (by omega), hh.1, q, show nI 40 - (1 : Int32) = nI 39 from rfl, Model_remember_L52 (n := 39) (by omega) (by rw [row_sI, upd_self])] at e
    cases e; rfl
  · rw [hh.1, if_neg (show ¬ nI (gH A).1 = (40 : Int32) from fun e => q (nI_inj6 (b := 40) (by omega) (by omega) e)), Model_remember_L52 (by omega) hh.1] at e
    cases e; rfl
/-- an hour with what is ahead of it -/
def yrA (B : Gh) (x : Int64) : Gh := sW (sH B (hpush (gH B) (gW B))) (lgS (paH (gK B) (wcS (gW B) x (gM B).2 (cB (gK B))).1) (hbS (paH (gK B) (wcS (gW B) x (gM B).2 (cB (gK B))).1) (cT (gK B)) (cB (gK B))))
theorem wcS_eq (w : Rw) (x : Int64) (tm : Int32) (B : Nat) : wcS w x tm B = gfS (tmS w x tm).1 (tmS w x tm).2 B := rfl
theorem gW_sH (A : Gh) (h : Nat × (Nat → Rw)) : gW (sH A h) = gW A := rfl
theorem gK_sH (A : Gh) (h : Nat × (Nat → Rw)) : gK (sH A h) = gK A := rfl
theorem gM_sH (A : Gh) (h : Nat × (Nat → Rw)) : gM (sH A h) = gM A := rfl
theorem gW_sW (A : Gh) (w : Rw) : gW (sW A w) = w := rfl
theorem gK_sW (A : Gh) (w : Rw) : gK (sW A w) = gK A := rfl
theorem wcS_ok {K : Cy} {w : Rw} {x : Int64} {tm : Int32} (hK : CyOk K) (hB : 1 ≤ cB K) (hw : rwOk K w) : rwOk K (wcS w x tm (cB K)).1 ∧ (∀ i, 129 ≤ i → (wcS w x tm (cB K)).1 i = w i) := by
  have a := tmS_ok (x := x) (tm := tm) hK hw
  rw [wcS_eq]
  generalize tmS w x tm = p at *
  have b := gfS_ok (x := p.2) hK hB a.1
  generalize gfS p.1 p.2 (cB K) = q at *
  exact ⟨b.1, fun i hi => (b.2 i hi).trans (a.2 i hi)⟩
theorem yr_rw {K : Cy} {w : Rw} {x : Int64} {tm : Int32} {h : Nat} (hK : CyOk K) (hB : 1 ≤ cB K) (hw : rwOk K w) (hh : w 130 = nI h) (h9 : h < 9999) : rwOk K (paH K (wcS w x tm (cB K)).1) ∧ paH K (wcS w x tm (cB K)).1 130 = nI (h + 1) := by
  obtain ⟨a1, a2⟩ := wcS_ok (x := x) (tm := tm) hK hB hw
  generalize (wcS w x tm (cB K)).1 = v at *
  obtain ⟨w1, w2⟩ := paH_wf2 hK rfl rfl a1.1 ((a2 130 (by omega)).trans hh) (by omega)
  obtain ⟨n, n1, n2⟩ := a1.2.1
  exact ⟨⟨w1, ⟨n, n1, (paH_hi hK rfl rfl a1.1 (by omega)).trans n2⟩, paH_tr hK a1.1 a1.2.2⟩, w2⟩
theorem yrA_ok {B : Gh} {x : Int64} {h : Nat} (hB : gOk B) (hc : hasC B) (hh : gW B 130 = nI h) (h9 : h < 9999) : gOk (yrA B x) ∧ hasC (yrA B x) ∧ gW (yrA B x) 130 = nI (h + 1) := by
  obtain ⟨k1, k2⟩ := gOk_keep hB hc
  obtain ⟨r1, r2⟩ := yr_rw (x := x) (tm := (gM B).2) hc.2.2.1 hc.2.1 hc.2.2.2.1 hh h9
  have ok := rwOk_lg (h := hbS (paH (gK B) (wcS (gW B) x (gM B).2 (cB (gK B))).1) (cT (gK B)) (cB (gK B))) hB.T8 hB.B6 r1
  refine ⟨gOk_W k1 k2 ok, hasC_W k2 ok, ?_⟩
  obtain ⟨n, n1, n2⟩ := r1.2.1
  show lgS _ _ 130 = _
  rw [lgS_lo n1 n2 (by omega)]
  exact r2
theorem year_pass {τ2 : Mem} {B1 : Gh} {v : Rw} (k1 : gOk B1) (k2 : hasC B1) (p2 : CRel τ2 (sW B1 v)) (a1 : rwOk (gK B1) v) (r1 : rwOk (gK B1) (paH (gK B1) v)) (h9 : ∃ h, v 130 = nI h ∧ h < 9999) : ∃ τ3, f_Trade_passHour τ2 6 = some τ3 ∧ CRel τ3 (sW B1 (lgS (paH (gK B1) v) (hbS (paH (gK B1) v) (cT (gK B1)) (cB (gK B1))))) ∧ mL τ3 0 17 = mL τ2 0 17 ∧ EqHi τ2 τ3 := by
  have t8 := k1.T8
  have b6 := k1.B6
  have o1 := gOk_W k1 k2 (w := v) a1
  have o2 := hasC_W k2 (w := v) a1
  obtain ⟨τ3, q1, q2, q3⟩ := Trade_passHour (K := gK B1) (w := v) o1.J k2.2.2.1 p2.k ok6 p2.j (p2.n o2).1 a1.1 (by omega)
  have hg' := q3 (p2.n o2).2
  rw [hbS_6 b6 r1.1] at hg'
  obtain ⟨n, n1, n2⟩ := r1.2.1
  obtain ⟨c1, c2⟩ := p2.setw (w := lgS (paH (gK B1) v) (hbS (paH (gK B1) v) (cT (gK B1)) (cB (gK B1)))) o2 (RS.congr (K := gK B1) t8 b6 q2.1 r1.m fun i hi => lgS_lo n1 n2 hi) hg' q2.2.1 o1.2.1.1 o1.2.2.1.1
  exact ⟨τ3, q1, c1, by rw [q2.2.1.2.1], c2⟩
