/-! the law: its case buyer -/
theorem lk_L_42 : Cond.methodLink RL 42 yL_buyer ∈ ALL := allIdx 1227 (by decide +kernel) rfl
theorem st_L_42 : Cond.static yL_buyer ∈ ALL := allIdx 1228 (by decide +kernel) rfl
theorem cw_L_42 : Cond.codeWith yL_buyer cL_buyer 5 (some .int) hhB ∈ ALL := allIdx 1229 (by decide +kernel) rfl
theorem ii_L : Cond.initialized RL ∈ ALL := allIdx 111 (by decide +kernel) rfl
theorem my_X11_buyer : MyV yX11_buyer cX11_buyer 3 (some .int) 2 := ⟨⟨allT7 155 (by decide +kernel) rfl, allT7 156 (by decide +kernel) rfl, allT1 12 (by decide +kernel) rfl, allT7 157 (by decide +kernel) rfl⟩, by decide +kernel, by decide +kernel, by decide +kernel⟩
theorem my_X11_thrown : MyV yX11_thrown cX11_thrown 1 (some .int) 0 := ⟨⟨allT6 173 (by decide +kernel) rfl, allT6 174 (by decide +kernel) rfl, allT1 12 (by decide +kernel) rfl, allT6 175 (by decide +kernel) rfl⟩, by decide +kernel, by decide +kernel, by decide +kernel⟩
theorem lk_L_47 : Cond.methodLink RL 47 yX11_buyer ∈ ALL := allT7 154 (by decide +kernel) rfl
theorem lk_L_48 : Cond.methodLink RL 48 yX11_thrown ∈ ALL := allT6 172 (by decide +kernel) rfl
theorem cmp_self (x : Int64) : lg_cmp x x = 0 := by
  unfold lg_cmp
  rw [if_neg (fun h => (Int64.lt_irrefl) h), if_pos rfl]
section LW
variable {θ : Th} {p : Program} {l : Launch} {e : Env} {R : Room} {s : State} {m : MethodId} {args : Array Value} {below : List Frame} {meth : Method} {c : Code} {cells slots pc : Nat} {Q : State → Prop} {lv : List (Nat × Value)} {st : List Value} {σ : Mem} {b L ii : Nat} {xs : Nat → Int32}
theorem lw_callb (X : Cx θ p s m args c cL_law 7 RL) (hTx : ThX s) (hl0 : l.stackTraces = false) {x1 x2 bad v : Int32} (hbad : f_Game_buyerBad σ x1 x2 = some bad) (hv : bad = 0 → f_Game_buyer σ x1 x2 = some v) (hR : 100 ≤ R.frames ∧ 8000 ≤ R.locals) (hf : cells + 1 ≤ R.cells ∧ slots + 6 ≤ R.slots) (hd : decode cL_law pc = .ok (.invokestatic 42, 3)) (kk : G θ p l e R s m args below meth c 7 (cells + 1) (slots + 6) Q (pc + 3) lv [.int bad] (rB σ bad v).2) : G θ p l e R s m args below meth c 7 cells slots Q pc lv [.ref (be θ + 590), .int x2, .int x1, .ref (be θ + 0)] σ := by
  intro H locs ls hW hS hl
  have cw : vx_CSW R s args RL 42 yL_buyer cL_buyer 5 (some .int) hhB (.codeWith yL_buyer cL_buyer 5 (some .int) hhB :: ALL) (rmq 8 1 6) 1 6 4 := vx_cwSW 4 X.1.2.2.2.2 (goodALL (by
    intro w hw
    simp only [va_wsS, List.cons_append, List.nil_append, List.mem_cons] at hw
    rcases hw with rfl | rfl | rfl | rfl | hw
    · exact lk_L_42
    · exact st_L_42
    · exact ii_L
    · exact cw_L_42
    · exact hw)) rfl rfl rfl ⟨by decide, by decide, by decide +kernel⟩ ⟨Nat.le_trans (by decide) hR.1, Nat.le_trans (by decide) hR.2⟩
  have run := vx_runSX (rest := []) (As := [.ref (be θ + 0), .int x1, .int x2, .ref (be θ + 590)]) X.1 (c_Lbuyer hl0 hbad hv) cw ⟨PT.blind, fun U hU hw => ⟨rfl, Pr.of X hW hS hU hw, hTx.warm hw⟩⟩ (g := F0 m pc ls [.ref (be θ + 590), .int x2, .int x1, .ref (be θ + 0)]) (below := below) (e := e) (meth := meth) (locs := locs) (cells := cells) (slots := slots) rfl rfl hl.1 rfl (lv_room (Nat.zero_le _)) hd hf
  intro T hT X0
  rcases run T hT X0 with ⟨v9, st₀, t, T', Lo, h0, X', hL, e1, e2, ⟨⟨hv9, hP⟩, hz, hk⟩, go⟩ | ⟨q, st₀, t, T', Lo, E, ce, h0, X', hL, e1, e2, hF, hce, hcv, hcl, go⟩
  · cases hv9
    rw [h0] at hz hk
    obtain ⟨t2, a1, b1⟩ := kk T'.heap (locs ++ Lo) ls (by rw [e1]; exact hP.1) ⟨Nat.le_trans hS.1 (by rw [e1]; exact hz), fun q h1 h2 => by rw [e1, hk q (Nat.lt_of_lt_of_le h1 hS.1) h2]; exact hS.2.1 q h1 h2, fun q hq => by
      rcases List.mem_append.mp hq with h | h
      · exact hS.2.2 q h
      · exact hL q h⟩ hl T' rfl X'
    exact ⟨t2, go t2 a1, b1⟩
  · exact hF.elim
theorem lw_buyer (X : Cx θ p s m args c cL_law 7 RL) (hTx : ThX s) (hl0 : l.stackTraces = false) (C : LC θ s b L xs ii) (hR : 100 ≤ R.frames ∧ 8000 ≤ R.locals) (hf : cells + 1 ≤ R.cells ∧ slots + 6 ≤ R.slots) (I : Inv σ) (kk : ∀ σ1, Inv σ1 → G θ p l e R s m args below meth c 7 (cells + 1) (slots + 6) Q 1725 (LV θ b ii) [] σ1) : G θ p l e R s m args below meth c 7 cells slots Q 409 (LV θ b ii) [] σ := by
  obtain ⟨A, hA, hC, hM⟩ := I
  obtain ⟨bad, v, h01, hG, hMo⟩ := sim_buyer (xs (ii + 1)) (xs (ii + 2)) A hA
  obtain ⟨g1, g2⟩ := hG σ hC
  obtain ⟨σ1, e1⟩ : ∃ σ1, σ1 = (if bad = 0 then sL σ 590 0 v.toInt64 else σ) := ⟨_, rfl⟩
  have hCM : CRel σ1 A ∧ MRel σ1 A := by
    rw [e1]
    by_cases h : bad = 0
    · rw [if_pos h]; exact Inv.out hC hM
    · rw [if_neg h]; exact ⟨hC, hM⟩
  obtain ⟨w, σ2, m1, m2, m3, m4, m5⟩ := hMo σ1 hCM.2
  have hC2 : CRel σ2 A := hCM.1.lo hA m3
  obtain ⟨r1, r2⟩ := hR
  refine la1 X (by decide +kernel) ?_
  refine la X C 4 0 rfl rfl 1 (by decide) (by decide +kernel) ?_
  refine la X C 4 0 rfl rfl 2 (by decide) (by decide +kernel) ?_
  refine g_aload_n X (show decode cL_law 422 = .ok (.aload_n 3, 1) by decide +kernel) rfl 1 rfl ?_
  refine lw_callb X hTx hl0 g1 g2 ⟨r1, r2⟩ hf (by decide +kernel) ?_
  rw [show (rB σ bad v).2 = σ1 from e1.symm]
  refine g_istore X (show decode cL_law 426 = .ok (.istore 5, 2) by decide +kernel) (by decide) rfl ?_
  refine g_aload_n X (show decode cL_law 428 = .ok (.aload_n 2, 1) by decide +kernel) rfl 3 rfl ?_
  refine la X C 5 1 rfl rfl 1 (by decide) (by decide +kernel) ?_
  refine la X C 5 1 rfl rfl 2 (by decide) (by decide +kernel) ?_
  refine g_callV X (c_Model_buyer m1) lk_L_47 my_X11_buyer kd_565 (by decide) rfl (As := [.int (xs (ii + 1)), .int (xs (ii + 2))]) (rest := []) rfl rfl (Nat.le_of_ble_eq_true rfl) ⟨Nat.le_trans (by decide) r1, Nat.le_trans (by decide) r2⟩ hf (by decide +kernel) ?_
  refine g_istore X (show decode cL_law 444 = .ok (.istore 6, 2) by decide +kernel) (by decide) rfl ?_
  refine g_aload_n X (show decode cL_law 446 = .ok (.aload_n 2, 1) by decide +kernel) rfl 4 rfl ?_
  have ht : f_Model_thrown σ2 = some bad := by unfold f_Model_thrown; rw [m4]
  refine g_callV X (c_Model_thrown ht) lk_L_48 my_X11_thrown kd_565 (by decide) rfl (As := []) (rest := []) rfl rfl (Nat.le_of_ble_eq_true rfl) ⟨Nat.le_trans (by decide) r1, Nat.le_trans (by decide) r2⟩ hf (by decide +kernel) ?_
  refine g_iload X (show decode cL_law 450 = .ok (.iload 5, 2) by decide +kernel) 1 rfl ?_
  refine g_icmp_eq X (off := 5) (by decide +kernel) (tgt := 457) (by decide) (fun _ => ?_) (fun h => absurd rfl h)
  refine g_iload X (show decode cL_law 457 = .ok (.iload 5, 2) by decide +kernel) 1 rfl ?_
  have fin : G θ p l e R s m args below meth c 7 (cells + 1) (slots + 6) Q 474 [(6, .int w), (5, .int bad), (4, .int (nI ii)), (3, .ref (be θ + 590)), (2, .ref (be θ + 565)), (1, .ref (be θ + 0)), (0, .ref b)] [] σ2 := by
    refine g_goto X (off := 1251) (by decide +kernel) (tgt := 1725) (by decide) ?_
    refine g_sub [2, 3, 4, 5, 6] rfl ?_
    exact kk σ2 ⟨A, hA, hC2, m2⟩
  refine g_if_ne X (off := 15) (by decide +kernel) (tgt := 474) (by decide) (fun _ => fin) (fun h0 => ?_)
  refine g_aload_n X (show decode cL_law 462 = .ok (.aload_n 3, 1) by decide +kernel) rfl 3 rfl ?_
  refine g_iconst X (show decode cL_law 463 = .ok (.iconst 0, 1) by decide +kernel) (v := 0) (by decide) ?_
  refine g_lald X kd_590 ln_590 vin0 (by decide +kernel) ?_
  refine g_iload X (show decode cL_law 465 = .ok (.iload 6, 2) by decide +kernel) 0 rfl ?_
  refine g_i2l X (by decide +kernel) rfl ?_
  refine g_lcmp X (by decide +kernel) ?_
  have hz : lg_cmp (mL σ2 590 (0 : Int32).toNatClampNeg) w.toInt64 = 0 := by
    rw [m5 h0, (m3 590 (Or.inr (Nat.le_refl _))).2.1, e1, if_pos h0, mL_sL, if_pos ⟨rfl, by decide⟩]
    exact cmp_self _
  refine g_if_eq X (off := 5) (by decide +kernel) (tgt := 474) (by decide) (fun _ => fin) (fun h => absurd hz h)
end LW
