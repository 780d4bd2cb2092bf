/-! hours ahead -/
theorem okO435 : OkO 435 := ⟨by omega, by decide +kernel⟩
theorem Outlook_hours {J : Mem → Prop} {K : Cy} {σ : Mem} {o N n : Nat} {w : Rw} (f : Mem × Int32 → Option ((Mem × Int32) ⊕ Mem)) (hf : ∀ τ i, i < n → f (τ, nI i) = (f_Trade_passHour τ o).bind fun q => some (.inl (q, nI (i + 1)))) (he : ∀ τ, f (τ, nI n) = some (.inr τ)) (hJ : LkC J (cL K)) (hK : CyOk K) (h : CK σ K) (ho : OkO o) (hj : J σ) (hr : RS σ o K w) (hw : Wf (cT K) (cB K) N w) (hN : N + n < 2 ^ 30) (hn : n < 20000) : ∃ σ', loopF f FU (σ, (0 : Int32)) = some σ' ∧ CG J o K σ (itH K w n) σ' := by
  refine loopF_go (fun i (s : Mem × Int32) => s.2 = nI i ∧ CG J o K σ (itH K w i) s.1) _ n ⟨rfl, hr, CX.refl _ _, hj⟩ hn ?_
  rintro i ⟨τ, z⟩ hin ⟨hz, hr1, hx, hj1⟩
  simp only at hz hr1 hx hj1
  subst hz
  by_cases hlt : i < n
  · obtain ⟨τ', g1, g2, -⟩ := Trade_passHour hJ hK (h.fr ho hx) ho hj1 hr1 (itH_wf hK hw i) (by omega)
    rw [hf τ i hlt, g1]
    exact exL ⟨hlt, rfl, g2.1, hx.trans g2.2.1, g2.2.2⟩
  · have : i = n := by omega
    subst this
    rw [he]
    exact exR ⟨hr1, hx, hj1⟩
theorem copy_CX {σ σ' : Mem} {o : Nat} (h : ∀ c, ¬ (o ≤ c ∧ c < o + 10) → mI σ' c = mI σ c) (hL : mL σ' = mL σ) (hR : mR σ' = mR σ) : CX o σ σ' := ⟨fun a ha _ => h a ha, hL, hR⟩
theorem SC_cx {A : Gh} {σ σ' : Mem} {o : Nat} (hA : gOk A) (h : CRel σ A) (ho : (435 ≤ o ∧ o ≤ 506) ∨ o = 517) (g : CX o σ σ') : SC (gL A).1 (gD A).1 σ σ' := SC_of hA.2.1.1 hA.2.2.1.1 h.2.2.2.2.2.1.c (fun a ha => g.1 a (by omega) (by omega)) g.2.1 g.2.2
theorem Outlook_behind {σ : Mem} {A : Gh} {n : Nat} (hA : gOk A) (hC : CRel σ A) (hc : hasC A) (hn : n ≤ 60) : ∃ σ', f_Outlook_behind σ 6 (nI n) = some σ' ∧ RS σ' 435 (gK A) (itH (gK A) (gW A) n) ∧ SC (gL A).1 (gD A).1 σ σ' := by
  obtain ⟨hr, hg⟩ := hC.n hc
  obtain ⟨σ1, g1, g2, g3, g4, g5, g6, g7⟩ := State_copyFrom (o := 435) (p := 6) (by omega) hA.T8 hA.B6 hr hc.2.2.2.1.1
  have cx := copy_CX g4 g5 g6
  obtain ⟨σ2, k1, k2, k3, k4⟩ := Outlook_hours (n := n) (f_Outlook_behind_L11 6 (nI n)) (fun τ i hi => by
    unfold f_Outlook_behind_L11
    simp only [show ¬ nI n ≤ nI i from nI_ge hi (by omega), if_false, nI_1]) (fun τ => by
    unfold f_Outlook_behind_L11
    simp only [show nI n ≤ nI n from nI_le (Nat.le_refl _) (by omega), if_true]) hA.J hc.2.2.1 (hC.k.fr okO435 cx) okO435 (J_CX hA.J okO435 hC.j cx) g2 hc.2.2.2.1.1 (by omega) (by omega)
  refine ⟨σ2, ?_, k2, SC_cx hA hC (by omega) (cx.trans k3)⟩
  unfold f_Outlook_behind
  rw [g1, Option.bind_some, k1]
theorem Model_copy {σ : Mem} : f_Model_copy σ 578 579 = some (rI σ 579 fun j => if j < 131 then mI σ 578 j else mI σ 579 j) := by
  have hl8 : ln 578 = 312 := by decide +kernel
  have hl9 : ln 579 = 131 := by decide +kernel
  have key := loopF_count (step := f_Model_copy_L2 578 579) (fun i => (rI σ 579 fun j => if j < i then mI σ 578 j else mI σ 579 j, nI i)) (rI σ 579 fun j => if j < 131 then mI σ 578 j else mI σ 579 j) 131 0 (fun j _ hj => by
    unfold f_Model_copy_L2
    simp only [show ¬ (131 : Int32) ≤ nI j from nI_ge (b := 131) (by omega) (by omega), if_false, hl8, hl9, inb_nI (show j < 312 by omega) (show 312 < 2 ^ 31 by decide), inb_nI (show j < 131 by omega) (show 131 < 2 ^ 31 by decide), if_true, nI_clamp (show j < 2 ^ 31 by omega), nI_1, rowr_ne (show (578 : Nat) ≠ 579 by omega), sI_rI]
    refine congrArg (fun f => some (Sum.inl (rI σ 579 f, nI (j + 1)))) (funext fun k => ?_)
    rw [upd_at]
    by_cases hk : k = j
    · rw [if_pos hk, if_pos (by omega), hk]
    · rw [if_neg hk]
      by_cases hk2 : k < j
      · rw [if_pos hk2, if_pos (by omega)]
      · rw [if_neg hk2, if_neg (by omega)]) (by
    unfold f_Model_copy_L2
    simp only [show (131 : Int32) ≤ nI (0 + 131) by decide, if_true, Nat.zero_add]) FU (by unfold FU; omega)
  have e0 : (rI σ 579 fun j => if j < 0 then mI σ 578 j else mI σ 579 j) = σ := by
    have : (fun j => if j < 0 then mI σ 578 j else mI σ 579 j) = mI σ 579 := by funext j; rw [if_neg (by omega)]
    rw [this, rI_self]
  rw [e0] at key
  exact key
/-- the trial row of the reference agrees with w; nothing of the abstract state has changed -/
def TR (A : Gh) (σ : Mem) (w : Rw) (σ' : Mem) : Prop := Ag (mI σ' 579) w ∧ MX 579 σ σ' ∧ iA A σ'
theorem TR.sm {A : Gh} {σ σ' : Mem} {w : Rw} (h : TR A σ w σ') : SM (gL A).1 (gL A).2.1 σ σ' := SM_mx (Or.inl rfl) h.2.1 h.2.2.1
theorem TR_copy {A : Gh} {σ : Mem} (hA : gOk A) (hM : MRel σ A) : ∃ σ', f_Model_copy σ 578 579 = some σ' ∧ TR A σ (gW A) σ' := by
  refine ⟨_, Model_copy, fun i hi => ?_, ⟨fun c c1 _ _ _ _ => rowr_ne c1, fun _ _ => rfl, fun _ _ _ => rfl, fun k _ => by rw [rowr_ne (by omega)]⟩, hA.I.1 σ _ hM.i ⟨rowr_ne (by omega), rowr_ne (by omega), rfl, rowr_ne (by omega), by rw [rowr_ne (by omega)]⟩⟩
  rw [rowr_self, if_pos hi, hM.w]
/-- one hour more on the trial row -/
theorem TR_hour {A : Gh} {σ σ1 : Mem} {w : Rw} {N : Nat} {K : Cy} (hL : cL K = cL (gK A)) (hA : gOk A) (hK : CyOk K) (hk : MK σ1 K) (h : TR A σ w σ1) (hw : Wf (cT K) (cB K) N w) (hN : N < 2 ^ 30) : ∃ σ', f_Model_passes σ1 579 = some σ' ∧ TR A σ (paH K w) σ' ∧ MX 579 σ1 σ' := by
  have w1 : Wf (cT K) (cB K) N (mI σ1 579) := hw.congr hK.1 hK.2.1 h.1
  obtain ⟨σ2, g1, g2⟩ := Model_passes (I := iA A) (by rw [hL]; exact hA.I) hK hk (Or.inr rfl) h.2.2 w1 hN
  exact ⟨σ2, g1, ⟨by rw [g2.1]; exact h.1.hr hK hw, h.2.1.trans g2.2.1, g2.2.2⟩, g2.2.1⟩
theorem TR_hours {A : Gh} {σ σ1 : Mem} {w : Rw} {N n : Nat} {K : Cy} (f : Mem × Int32 → Option ((Mem × Int32) ⊕ Mem)) (hf : ∀ τ i, i < n → f (τ, nI i) = (f_Model_passes τ 579).bind fun q => some (.inl (q, nI (i + 1)))) (he : ∀ τ, f (τ, nI n) = some (.inr τ)) (hL : cL K = cL (gK A)) (hA : gOk A) (hK : CyOk K) (hk : MK σ1 K) (h : TR A σ w σ1) (hw : Wf (cT K) (cB K) N w) (hN : N + n < 2 ^ 30) (hn : n < 20000) : ∃ σ', loopF f FU (σ1, (0 : Int32)) = some σ' ∧ TR A σ (itH K w n) σ' ∧ MX 579 σ1 σ' := by
  refine loopF_go (fun i (s : Mem × Int32) => s.2 = nI i ∧ TR A σ (itH K w i) s.1 ∧ MX 579 σ1 s.1) _ n ⟨rfl, h, MX.refl _ _⟩ hn ?_
  rintro i ⟨τ, z⟩ hin ⟨hz, ht, hx⟩
  simp only at hz ht hx
  subst hz
  by_cases hlt : i < n
  · obtain ⟨τ', g1, g2, g3⟩ := TR_hour hL hA hK (hk.fr (Or.inr rfl) hx) ht (itH_wf hK hw i) (by omega)
    rw [hf τ i hlt, g1]
    exact exL ⟨hlt, rfl, g2, hx.trans g3⟩
  · have : i = n := by omega
    subst this
    rw [he]
    exact exR ⟨ht, hx⟩
theorem Model_laysTrial {σ : Mem} {A : Gh} {n : Nat} (hA : gOk A) (hM : MRel σ A) (hc : hasC A) (hn : n ≤ 60) : ∃ σ', f_Model_laysTrial σ (nI n) = some σ' ∧ TR A σ (itH (gK A) (gW A) n) σ' := by
  obtain ⟨σ1, g1, g2⟩ := TR_copy hA hM
  obtain ⟨σ2, g3, g4, -⟩ := TR_hours (n := n) (f_Model_laysTrial_L13 (nI n)) (fun τ i hi => by
    unfold f_Model_laysTrial_L13
    simp only [show ¬ nI n ≤ nI i from nI_ge hi (by omega), if_false, nI_1]) (fun τ => by
    unfold f_Model_laysTrial_L13
    simp only [show nI n ≤ nI n from nI_le (Nat.le_refl _) (by omega), if_true]) rfl hA hc.2.2.1 (hM.k.fr (Or.inr rfl) g2.2.1) g2 hc.2.2.2.1.1 (by omega) (by omega)
  refine ⟨σ2, ?_, g4⟩
  unfold f_Model_laysTrial
  rw [g1, Option.bind_some, g3]
