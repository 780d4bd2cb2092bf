/-! the reference: the log -/
theorem lgS_16 {w : Rw} {n i : Nat} {h : Int32} (hn : n ≤ 60) (hw : w 131 = nI n) (hi : i < 16) : lgS w h i = w i := lgS_lo hn hw (by omega)
theorem Model_goNow_J70 {I : Mem → Prop} {K : Cy} {σ : Mem} {n : Nat} (hI : LkM I (cL K)) (hK : CyOk K) (h : MK σ K) (hi : I σ) (hn : n ≤ 59) (hl : mI σ 578 131 = nI n) : ∃ σ', f_Model_goNow_J70 σ = some (hbS (mI σ 578) (cT K) (cB K), σ') ∧ MR I 578 σ (lad (mI σ 578) n (hbS (mI σ 578) (cT K) (cB K))) σ' := by
  have h8 := hK.1
  have h6 := hK.2.1
  have r1 : MR I 578 σ (lad (mI σ 578) n (hbS (mI σ 578) (cT K) (cB K))) (sI (sI (sI (sI σ 578 (132 + 3 * n) (hbS (mI σ 578) (cT K) (cB K))) 578 (132 + 3 * n + 1) (mI σ 578 126)) 578 (132 + 3 * n + 2) (mI σ 578 129)) 578 131 (nI (n + 1))) := ((((MR.refl hi).up hI (Or.inl rfl)).up hI (Or.inl rfl)).up hI (Or.inl rfl)).up hI (Or.inl rfl)
  have hh := Model_holders (Or.inl rfl) h8 h6 (h.fr (Or.inl rfl) r1.2.1)
  rw [r1.1, hbS_congr h8 fun i hi => lad_lo (by omega) (by omega)] at hh
  have l131 : (131 : Int32).toNatClampNeg = 131 := by decide
  have l126 : (126 : Int32).toNatClampNeg = 126 := by decide
  have l129 : (129 : Int32).toNatClampNeg = 129 := by decide
  have a0 : (132 : Int32) + (3 : Int32) * nI n = nI (132 + 3 * n) := by rw [nI_3mul, show (132 : Int32) = nI 132 from rfl, nI_add]
  have a1 : nI (132 + 3 * n) + (1 : Int32) = nI (132 + 3 * n + 1) := nI_1 _
  have a2 : nI (132 + 3 * n) + (2 : Int32) = nI (132 + 3 * n + 2) := nI_addc _ 2
  have b0 := inb_nI (show 132 + 3 * n < 312 by omega) (by decide)
  have b1 := inb_nI (show 132 + 3 * n + 1 < 312 by omega) (by decide)
  have b2 := inb_nI (show 132 + 3 * n + 2 < 312 by omega) (by decide)
  have c0 := nI_clamp (show 132 + 3 * n < 2 ^ 31 by omega)
  have c1 := nI_clamp (show 132 + 3 * n + 1 < 2 ^ 31 by omega)
  have c2 := nI_clamp (show 132 + 3 * n + 2 < 2 ^ 31 by omega)
  unfold f_Model_goNow_J70
  rw [Model_holders (Or.inl rfl) h8 h6 h, Option.bind_some, l131, l126, l129, hl, a0, a1, a2, if_pos b0, if_pos b1, if_pos b2, c0, c1, c2]
  simp (disch := omega) only [row_sI, upd_ne, hl, nI_1]
  rw [hh]
  exact ⟨_, rfl, r1⟩
theorem Model_goNow {I : Mem → Prop} {K : Cy} {σ : Mem} {n N : Nat} (hI : LkM I (cL K)) (hK : CyOk K) (h : MK σ K) (hi : I σ) (hw : Wf (cT K) (cB K) N (mI σ 578)) (hN : N < 2 ^ 30) (hn : n ≤ 60) (hl : mI σ 578 131 = nI n) : ∃ σ', f_Model_goNow σ = some (hbS (paH K (mI σ 578)) (cT K) (cB K), σ') ∧ MR I 578 σ (lgS (paH K (mI σ 578)) (hbS (paH K (mI σ 578)) (cT K) (cB K))) σ' := by
  have h8 := hK.1
  have h6 := hK.2.1
  obtain ⟨σ1, g1, g2⟩ := Model_passes hI hK h (Or.inl rfl) hi hw hN
  have hl1 : paH K (mI σ 578) 131 = nI n := (paH_hi hK rfl rfl hw (by omega)).trans hl
  have l131 : (131 : Int32).toNatClampNeg = 131 := by decide
  unfold f_Model_goNow lgS
  rw [g1, Option.bind_some, l131, g2.1, hl1, lnS_eq hn hl1]
  generalize paH K (mI σ 578) = v at *
  by_cases h60 : n = 60
  · subst h60
    rw [if_pos (show nI 60 = (60 : Int32) from rfl), if_pos rfl]
    obtain ⟨σ2, k1, k2⟩ := loopF_go (step := f_Model_goNow_L23) (a := (σ1, (1 : Int32))) (fun i s => s.2 = nI (1 + i) ∧ MR I 578 σ (fun j => if 132 ≤ j ∧ j < 132 + i then v (j + 3) else v j) s.1) (fun r => MR I 578 σ (fun j => if 132 ≤ j ∧ j < 309 then v (j + 3) else v j) r) 177 ⟨rfl, by
      have e : (fun j => if 132 ≤ j ∧ j < 132 + 0 then v (j + 3) else v j) = v := by funext j; rw [if_neg (by omega)]
      rw [e]; exact g2⟩ (by omega) (by
      rintro i ⟨τ, z⟩ hi1 ⟨hz, hr⟩
      simp only at hz hr
      subst hz
      unfold f_Model_goNow_L23
      by_cases hlt : i < 177
      · have a0 : (131 : Int32) + nI (1 + i) = nI (132 + i) := by rw [show (131 : Int32) = nI 131 from rfl, nI_add]; congr 1; omega
        have a1 : nI (132 + i) + (3 : Int32) = nI (132 + i + 3) := nI_addc _ 3
        have a2 : nI (1 + i) + (1 : Int32) = nI (1 + (i + 1)) := by rw [nI_1]; congr 1
        have c7 : ¬ (177 : Int32) < nI (1 + i) := nI_nlt (a := 177) (by omega) (by omega)
        simp only [c7, if_false, a0, a1, a2, inb_nI (show 132 + i < 312 by omega) (show 312 < 2 ^ 31 by decide), inb_nI (show 132 + i + 3 < 312 by omega) (show 312 < 2 ^ 31 by decide), if_true, nI_clamp (show 132 + i < 2 ^ 31 by omega), nI_clamp (show 132 + i + 3 < 2 ^ 31 by omega)]
        refine exL ⟨hlt, rfl, ?_⟩
        have := hr.up hI (k := 132 + i) (v := mI τ 578 (132 + i + 3)) (Or.inl rfl)
        refine ⟨?_, this.2⟩
        rw [this.1]
        funext j
        rw [upd_at, hr.1]
        dsimp only
        by_cases hj : j = 132 + i
        · subst hj
          rw [if_pos rfl, if_neg (by omega), if_pos (by omega)]
        · rw [if_neg hj]
          by_cases hj2 : 132 ≤ j ∧ j < 132 + i
          · rw [if_pos hj2, if_pos (by omega)]
          · rw [if_neg hj2, if_neg (by omega)]
      · have : i = 177 := by omega
        subst this
        simp only [show (177 : Int32) < nI (1 + 177) by decide, if_true]
        exact exR hr)
    rw [k1, Option.bind_some]
    have e131 : mI σ2 578 131 = nI 60 := by rw [k2.1]; dsimp only; rw [if_neg (by omega)]; exact hl1
    rw [e131, show nI 60 - (1 : Int32) = nI 59 from rfl]
    have r2 := k2.up hI (k := 131) (v := nI 59) (Or.inl rfl)
    have el : upd (fun j => if 132 ≤ j ∧ j < 309 then v (j + 3) else v j) 131 (nI 59) = lsh v := by
      funext j
      unfold lsh
      rw [upd_at]
      by_cases hj : j = 131
      · subst hj; rw [if_pos rfl, if_neg (by omega), if_pos rfl]
      · rw [if_neg hj, if_neg hj]
    rw [el] at r2
    obtain ⟨σ3, k3, k4⟩ := Model_goNow_J70 hI hK (h.fr (Or.inl rfl) r2.2.1) r2.2.2 (show 59 ≤ 59 by omega) (by rw [r2.1]; unfold lsh; rw [if_neg (by omega), if_pos rfl])
    have eh : hbS (lsh v) (cT K) (cB K) = hbS v (cT K) (cB K) := hbS_congr h8 (fun i hi => by unfold lsh; rw [if_neg (by omega), if_neg (by omega)]) _
    rw [r2.1, eh] at k3 k4
    rw [k3]
    exact ⟨σ3, rfl, r2.trans k4⟩
  · rw [if_neg (show ¬ nI n = (60 : Int32) from fun q => h60 (nI_inj6 (b := 60) (by omega) (by omega) q)), if_neg h60]
    obtain ⟨σ3, k3, k4⟩ := Model_goNow_J70 hI hK (h.fr (Or.inl rfl) g2.2.1) g2.2.2 (show n ≤ 59 by omega) (by rw [g2.1]; exact hl1)
    rw [g2.1] at k3 k4
    rw [k3]
    exact ⟨σ3, rfl, g2.trans k4⟩
