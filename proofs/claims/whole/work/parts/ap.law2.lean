/-! the law: its cases law, tempted, pick, putBack, hand, buy, hour -/
section LW
variable {θ : Th} {p : Program} {l : Launch} {e : Env} {R : Room} {s : State} {m : MethodId} {args : Array Value} {below : List Frame} {meth : Method} {c : Code} {cells slots : Nat} {Q : State → Prop} {σ : Mem} {b L ii : Nat} {xs : Nat → Int32}
theorem my_X10_law : MyV yX10_law cX10_law 2 (some .boolean) 1 := ⟨⟨allT3 171 (by decide +kernel) rfl, allT3 172 (by decide +kernel) rfl, allT1 1 (by decide +kernel) rfl, allT3 173 (by decide +kernel) rfl⟩, by decide +kernel, by decide +kernel, by decide +kernel⟩
theorem my_X11_law : MyV yX11_law cX11_law 2 (some .boolean) 1 := ⟨⟨allT7 207 (by decide +kernel) rfl, allT7 208 (by decide +kernel) rfl, allT1 12 (by decide +kernel) rfl, allT7 209 (by decide +kernel) rfl⟩, by decide +kernel, by decide +kernel, by decide +kernel⟩
theorem lk_L_61 : Cond.methodLink RL 61 yX10_law ∈ ALL := allT3 170 (by decide +kernel) rfl
theorem lk_L_64 : Cond.methodLink RL 64 yX11_law ∈ ALL := allT7 206 (by decide +kernel) rfl
theorem lw_law (X : Cx θ p s m args c cL_law 7 RL) (C : LC θ s b L xs ii) (hR : 100 ≤ R.frames ∧ 8000 ≤ R.locals) (hf : cells ≤ R.cells ∧ slots ≤ R.slots) (I : Inv σ) (kk : ∀ σ1, Inv σ1 → G θ p l e R s m args below meth c 7 cells slots Q 1725 (LV θ b ii) [] σ1) : G θ p l e R s m args below meth c 7 cells slots Q 563 (LV θ b ii) [] σ := by
  obtain ⟨A, hA, hC, hM⟩ := I
  obtain ⟨r, A1, σ1, σ2, h1, h2, hA1, hC1, hM1⟩ := (Sim.two (sim_law (xs (ii + 1)))) A σ hA hC hM
  have h1 : f_Game_law σ (xs (ii + 1)) = some (r, σ1) := h1
  have h2 : f_Model_law σ1 (xs (ii + 1)) = some (r, σ2) := h2
  obtain ⟨r1, r2⟩ := hR
  refine la1 X (by decide +kernel) ?_
  refine la X C 4 0 rfl rfl 1 (by decide) (by decide +kernel) ?_
  refine g_callV X (c_Game_law h1) lk_L_61 my_X10_law kd_0 (by decide) rfl (As := [.int (xs (ii + 1))]) (rest := []) rfl rfl (Nat.le_of_ble_eq_true rfl) ⟨Nat.le_trans (by decide) r1, Nat.le_trans (by decide) r2⟩ hf (by decide +kernel) ?_
  refine la2 X (by decide +kernel) ?_
  refine la X C 4 0 rfl rfl 1 (by decide) (by decide +kernel) ?_
  refine g_callV X (c_Model_law h2) lk_L_64 my_X11_law kd_565 (by decide) rfl (As := [.int (xs (ii + 1))]) (rest := [.int r]) rfl rfl (Nat.le_of_ble_eq_true rfl) ⟨Nat.le_trans (by decide) r1, Nat.le_trans (by decide) r2⟩ hf (by decide +kernel) ?_
  exact g_icmp_eq X (off := 1142) (by decide +kernel) (tgt := 1725) (by decide) (fun _ => kk σ2 ⟨A1, hA1, hC1, hM1⟩) (fun h => absurd rfl h)
theorem my_X10_tempted : MyV yX10_tempted cX10_tempted 2 (some .boolean) 1 := ⟨⟨allT3 175 (by decide +kernel) rfl, allT3 176 (by decide +kernel) rfl, allT1 1 (by decide +kernel) rfl, allT3 177 (by decide +kernel) rfl⟩, by decide +kernel, by decide +kernel, by decide +kernel⟩
theorem my_X11_tempted : MyV yX11_tempted cX11_tempted 2 (some .boolean) 1 := ⟨⟨allT7 211 (by decide +kernel) rfl, allT7 212 (by decide +kernel) rfl, allT1 12 (by decide +kernel) rfl, allT7 213 (by decide +kernel) rfl⟩, by decide +kernel, by decide +kernel, by decide +kernel⟩
theorem lk_L_65 : Cond.methodLink RL 65 yX10_tempted ∈ ALL := allT3 174 (by decide +kernel) rfl
theorem lk_L_68 : Cond.methodLink RL 68 yX11_tempted ∈ ALL := allT7 210 (by decide +kernel) rfl
theorem lw_tempted (X : Cx θ p s m args c cL_law 7 RL) (C : LC θ s b L xs ii) (hR : 100 ≤ R.frames ∧ 8000 ≤ R.locals) (hf : cells ≤ R.cells ∧ slots ≤ R.slots) (I : Inv σ) (kk : ∀ σ1, Inv σ1 → G θ p l e R s m args below meth c 7 cells slots Q 1725 (LV θ b ii) [] σ1) : G θ p l e R s m args below meth c 7 cells slots Q 588 (LV θ b ii) [] σ := by
  obtain ⟨A, hA, hC, hM⟩ := I
  obtain ⟨r, A1, σ1, σ2, h1, h2, hA1, hC1, hM1⟩ := (Sim.two (sim_tempted (xs (ii + 1)))) A σ hA hC hM
  have h1 : f_Game_tempted σ (xs (ii + 1)) = some (r, σ1) := h1
  have h2 : f_Model_tempted σ1 (xs (ii + 1)) = some (r, σ2) := h2
  obtain ⟨r1, r2⟩ := hR
  refine la1 X (by decide +kernel) ?_
  refine la X C 4 0 rfl rfl 1 (by decide) (by decide +kernel) ?_
  refine g_callV X (c_Game_tempted h1) lk_L_65 my_X10_tempted kd_0 (by decide) rfl (As := [.int (xs (ii + 1))]) (rest := []) rfl rfl (Nat.le_of_ble_eq_true rfl) ⟨Nat.le_trans (by decide) r1, Nat.le_trans (by decide) r2⟩ hf (by decide +kernel) ?_
  refine la2 X (by decide +kernel) ?_
  refine la X C 4 0 rfl rfl 1 (by decide) (by decide +kernel) ?_
  refine g_callV X (c_Model_tempted h2) lk_L_68 my_X11_tempted kd_565 (by decide) rfl (As := [.int (xs (ii + 1))]) (rest := [.int r]) rfl rfl (Nat.le_of_ble_eq_true rfl) ⟨Nat.le_trans (by decide) r1, Nat.le_trans (by decide) r2⟩ hf (by decide +kernel) ?_
  exact g_icmp_eq X (off := 1117) (by decide +kernel) (tgt := 1725) (by decide) (fun _ => kk σ2 ⟨A1, hA1, hC1, hM1⟩) (fun h => absurd rfl h)
theorem my_X10_pick : MyV yX10_pick cX10_pick 3 (some .int) 2 := ⟨⟨allT3 179 (by decide +kernel) rfl, allT3 180 (by decide +kernel) rfl, allT1 1 (by decide +kernel) rfl, allT3 181 (by decide +kernel) rfl⟩, by decide +kernel, by decide +kernel, by decide +kernel⟩
theorem my_X11_pick : MyV yX11_pick cX11_pick 3 (some .int) 2 := ⟨⟨allT7 216 (by decide +kernel) rfl, allT7 217 (by decide +kernel) rfl, allT1 12 (by decide +kernel) rfl, allT7 218 (by decide +kernel) rfl⟩, by decide +kernel, by decide +kernel, by decide +kernel⟩
theorem lk_L_69 : Cond.methodLink RL 69 yX10_pick ∈ ALL := allT3 178 (by decide +kernel) rfl
theorem lk_L_72 : Cond.methodLink RL 72 yX11_pick ∈ ALL := allT7 215 (by decide +kernel) rfl
theorem lw_pick (X : Cx θ p s m args c cL_law 7 RL) (C : LC θ s b L xs ii) (hR : 100 ≤ R.frames ∧ 8000 ≤ R.locals) (hf : cells ≤ R.cells ∧ slots ≤ R.slots) (I : Inv σ) (kk : ∀ σ1, Inv σ1 → G θ p l e R s m args below meth c 7 cells slots Q 1725 (LV θ b ii) [] σ1) : G θ p l e R s m args below meth c 7 cells slots Q 613 (LV θ b ii) [] σ := by
  obtain ⟨A, hA, hC, hM⟩ := I
  obtain ⟨r, A1, σ1, σ2, h1, h2, hA1, hC1, hM1⟩ := (Sim.two (sim_pick (xs (ii + 1)) (xs (ii + 2)))) A σ hA hC hM
  have h1 : f_Game_pick σ (xs (ii + 1)) (xs (ii + 2)) = some (r, σ1) := h1
  have h2 : f_Model_pick σ1 (xs (ii + 1)) (xs (ii + 2)) = some (r, σ2) := h2
  obtain ⟨r1, r2⟩ := hR
  refine la1 X (by decide +kernel) ?_
  refine la X C 4 0 rfl rfl 1 (by decide) (by decide +kernel) ?_
  refine la X C 4 0 rfl rfl 2 (by decide) (by decide +kernel) ?_
  refine g_callV X (c_Game_pick h1) lk_L_69 my_X10_pick kd_0 (by decide) rfl (As := [.int (xs (ii + 1)), .int (xs (ii + 2))]) (rest := []) rfl rfl (Nat.le_of_ble_eq_true rfl) ⟨Nat.le_trans (by decide) r1, Nat.le_trans (by decide) r2⟩ hf (by decide +kernel) ?_
  refine la2 X (by decide +kernel) ?_
  refine la X C 4 0 rfl rfl 1 (by decide) (by decide +kernel) ?_
  refine la X C 4 0 rfl rfl 2 (by decide) (by decide +kernel) ?_
  refine g_callV X (c_Model_pick h2) lk_L_72 my_X11_pick kd_565 (by decide) rfl (As := [.int (xs (ii + 1)), .int (xs (ii + 2))]) (rest := [.int r]) rfl rfl (Nat.le_of_ble_eq_true rfl) ⟨Nat.le_trans (by decide) r1, Nat.le_trans (by decide) r2⟩ hf (by decide +kernel) ?_
  exact g_icmp_eq X (off := 1080) (by decide +kernel) (tgt := 1725) (by decide) (fun _ => kk σ2 ⟨A1, hA1, hC1, hM1⟩) (fun h => absurd rfl h)
theorem my_X10_putBack : MyV yX10_putBack cX10_putBack 2 (some .int) 1 := ⟨⟨allT3 206 (by decide +kernel) rfl, allT3 207 (by decide +kernel) rfl, allT1 1 (by decide +kernel) rfl, allT3 208 (by decide +kernel) rfl⟩, by decide +kernel, by decide +kernel, by decide +kernel⟩
theorem my_X11_putBack : MyV yX11_putBack cX11_putBack 2 (some .int) 1 := ⟨⟨allT8 19 (by decide +kernel) rfl, allT8 20 (by decide +kernel) rfl, allT1 12 (by decide +kernel) rfl, allT8 21 (by decide +kernel) rfl⟩, by decide +kernel, by decide +kernel, by decide +kernel⟩
theorem lk_L_73 : Cond.methodLink RL 73 yX10_putBack ∈ ALL := allT3 205 (by decide +kernel) rfl
theorem lk_L_76 : Cond.methodLink RL 76 yX11_putBack ∈ ALL := allT8 18 (by decide +kernel) rfl
theorem lw_putBack (X : Cx θ p s m args c cL_law 7 RL) (C : LC θ s b L xs ii) (hR : 100 ≤ R.frames ∧ 8000 ≤ R.locals) (hf : cells ≤ R.cells ∧ slots ≤ R.slots) (I : Inv σ) (kk : ∀ σ1, Inv σ1 → G θ p l e R s m args below meth c 7 cells slots Q 1725 (LV θ b ii) [] σ1) : G θ p l e R s m args below meth c 7 cells slots Q 650 (LV θ b ii) [] σ := by
  obtain ⟨A, hA, hC, hM⟩ := I
  obtain ⟨r, A1, σ1, σ2, h1, h2, hA1, hC1, hM1⟩ := (Sim.two (sim_putBack (xs (ii + 1)))) A σ hA hC hM
  have h1 : f_Game_putBack σ (xs (ii + 1)) = some (r, σ1) := h1
  have h2 : f_Model_putBack σ1 (xs (ii + 1)) = some (r, σ2) := h2
  obtain ⟨r1, r2⟩ := hR
  refine la1 X (by decide +kernel) ?_
  refine la X C 4 0 rfl rfl 1 (by decide) (by decide +kernel) ?_
  refine g_callV X (c_Game_putBack h1) lk_L_73 my_X10_putBack kd_0 (by decide) rfl (As := [.int (xs (ii + 1))]) (rest := []) rfl rfl (Nat.le_of_ble_eq_true rfl) ⟨Nat.le_trans (by decide) r1, Nat.le_trans (by decide) r2⟩ hf (by decide +kernel) ?_
  refine la2 X (by decide +kernel) ?_
  refine la X C 4 0 rfl rfl 1 (by decide) (by decide +kernel) ?_
  refine g_callV X (c_Model_putBack h2) lk_L_76 my_X11_putBack kd_565 (by decide) rfl (As := [.int (xs (ii + 1))]) (rest := [.int r]) rfl rfl (Nat.le_of_ble_eq_true rfl) ⟨Nat.le_trans (by decide) r1, Nat.le_trans (by decide) r2⟩ hf (by decide +kernel) ?_
  exact g_icmp_eq X (off := 1055) (by decide +kernel) (tgt := 1725) (by decide) (fun _ => kk σ2 ⟨A1, hA1, hC1, hM1⟩) (fun h => absurd rfl h)
theorem my_X10_hand : MyV yX10_hand cX10_hand 3 (some .int) 2 := ⟨⟨allT3 234 (by decide +kernel) rfl, allT3 235 (by decide +kernel) rfl, allT1 1 (by decide +kernel) rfl, allT3 236 (by decide +kernel) rfl⟩, by decide +kernel, by decide +kernel, by decide +kernel⟩
theorem my_X11_hand : MyV yX11_hand cX11_hand 3 (some .int) 2 := ⟨⟨allT8 23 (by decide +kernel) rfl, allT8 24 (by decide +kernel) rfl, allT1 12 (by decide +kernel) rfl, allT8 25 (by decide +kernel) rfl⟩, by decide +kernel, by decide +kernel, by decide +kernel⟩
theorem lk_L_77 : Cond.methodLink RL 77 yX10_hand ∈ ALL := allT3 233 (by decide +kernel) rfl
theorem lk_L_80 : Cond.methodLink RL 80 yX11_hand ∈ ALL := allT8 22 (by decide +kernel) rfl
theorem lw_hand (X : Cx θ p s m args c cL_law 7 RL) (C : LC θ s b L xs ii) (hR : 100 ≤ R.frames ∧ 8000 ≤ R.locals) (hf : cells ≤ R.cells ∧ slots ≤ R.slots) (I : Inv σ) (kk : ∀ σ1, Inv σ1 → G θ p l e R s m args below meth c 7 cells slots Q 1725 (LV θ b ii) [] σ1) : G θ p l e R s m args below meth c 7 cells slots Q 675 (LV θ b ii) [] σ := by
  obtain ⟨A, hA, hC, hM⟩ := I
  obtain ⟨r, A1, σ1, σ2, h1, h2, hA1, hC1, hM1⟩ := (Sim.two (sim_hand (xs (ii + 1)) (xs (ii + 2)))) A σ hA hC hM
  have h1 : f_Game_hand σ (xs (ii + 1)) (xs (ii + 2)) = some (r, σ1) := h1
  have h2 : f_Model_hand σ1 (xs (ii + 1)) (xs (ii + 2)) = some (r, σ2) := h2
  obtain ⟨r1, r2⟩ := hR
  refine la1 X (by decide +kernel) ?_
  refine la X C 4 0 rfl rfl 1 (by decide) (by decide +kernel) ?_
  refine la X C 4 0 rfl rfl 2 (by decide) (by decide +kernel) ?_
  refine g_callV X (c_Game_hand h1) lk_L_77 my_X10_hand kd_0 (by decide) rfl (As := [.int (xs (ii + 1)), .int (xs (ii + 2))]) (rest := []) rfl rfl (Nat.le_of_ble_eq_true rfl) ⟨Nat.le_trans (by decide) r1, Nat.le_trans (by decide) r2⟩ hf (by decide +kernel) ?_
  refine la2 X (by decide +kernel) ?_
  refine la X C 4 0 rfl rfl 1 (by decide) (by decide +kernel) ?_
  refine la X C 4 0 rfl rfl 2 (by decide) (by decide +kernel) ?_
  refine g_callV X (c_Model_hand h2) lk_L_80 my_X11_hand kd_565 (by decide) rfl (As := [.int (xs (ii + 1)), .int (xs (ii + 2))]) (rest := [.int r]) rfl rfl (Nat.le_of_ble_eq_true rfl) ⟨Nat.le_trans (by decide) r1, Nat.le_trans (by decide) r2⟩ hf (by decide +kernel) ?_
  exact g_icmp_eq X (off := 1018) (by decide +kernel) (tgt := 1725) (by decide) (fun _ => kk σ2 ⟨A1, hA1, hC1, hM1⟩) (fun h => absurd rfl h)
theorem my_X10_buy : MyV yX10_buy cX10_buy 2 (some .int) 1 := ⟨⟨allT4 6 (by decide +kernel) rfl, allT4 7 (by decide +kernel) rfl, allT1 1 (by decide +kernel) rfl, allT4 8 (by decide +kernel) rfl⟩, by decide +kernel, by decide +kernel, by decide +kernel⟩
theorem my_X11_buy : MyV yX11_buy cX11_buy 2 (some .int) 1 := ⟨⟨allT8 27 (by decide +kernel) rfl, allT8 28 (by decide +kernel) rfl, allT1 12 (by decide +kernel) rfl, allT8 29 (by decide +kernel) rfl⟩, by decide +kernel, by decide +kernel, by decide +kernel⟩
theorem lk_L_81 : Cond.methodLink RL 81 yX10_buy ∈ ALL := allT4 5 (by decide +kernel) rfl
theorem lk_L_84 : Cond.methodLink RL 84 yX11_buy ∈ ALL := allT8 26 (by decide +kernel) rfl
theorem lw_buy (X : Cx θ p s m args c cL_law 7 RL) (C : LC θ s b L xs ii) (hR : 100 ≤ R.frames ∧ 8000 ≤ R.locals) (hf : cells ≤ R.cells ∧ slots ≤ R.slots) (I : Inv σ) (kk : ∀ σ1, Inv σ1 → G θ p l e R s m args below meth c 7 cells slots Q 1725 (LV θ b ii) [] σ1) : G θ p l e R s m args below meth c 7 cells slots Q 712 (LV θ b ii) [] σ := by
  obtain ⟨A, hA, hC, hM⟩ := I
  obtain ⟨r, A1, σ1, σ2, h1, h2, hA1, hC1, hM1⟩ := (Sim.two (sim_buy (xs (ii + 1)))) A σ hA hC hM
  have h1 : f_Game_buy σ (xs (ii + 1)) = some (r, σ1) := h1
  have h2 : f_Model_buy σ1 (xs (ii + 1)) = some (r, σ2) := h2
  obtain ⟨r1, r2⟩ := hR
  refine la1 X (by decide +kernel) ?_
  refine la X C 4 0 rfl rfl 1 (by decide) (by decide +kernel) ?_
  refine g_callV X (c_Game_buy h1) lk_L_81 my_X10_buy kd_0 (by decide) rfl (As := [.int (xs (ii + 1))]) (rest := []) rfl rfl (Nat.le_of_ble_eq_true rfl) ⟨Nat.le_trans (by decide) r1, Nat.le_trans (by decide) r2⟩ hf (by decide +kernel) ?_
  refine la2 X (by decide +kernel) ?_
  refine la X C 4 0 rfl rfl 1 (by decide) (by decide +kernel) ?_
  refine g_callV X (c_Model_buy h2) lk_L_84 my_X11_buy kd_565 (by decide) rfl (As := [.int (xs (ii + 1))]) (rest := [.int r]) rfl rfl (Nat.le_of_ble_eq_true rfl) ⟨Nat.le_trans (by decide) r1, Nat.le_trans (by decide) r2⟩ hf (by decide +kernel) ?_
  exact g_icmp_eq X (off := 993) (by decide +kernel) (tgt := 1725) (by decide) (fun _ => kk σ2 ⟨A1, hA1, hC1, hM1⟩) (fun h => absurd rfl h)
theorem my_X10_hour : MyV yX10_hour cX10_hour 1 (some .int) 0 := ⟨⟨allT4 27 (by decide +kernel) rfl, allT4 28 (by decide +kernel) rfl, allT1 1 (by decide +kernel) rfl, allT4 29 (by decide +kernel) rfl⟩, by decide +kernel, by decide +kernel, by decide +kernel⟩
theorem my_X11_hour : MyV yX11_hour cX11_hour 1 (some .int) 0 := ⟨⟨allT8 31 (by decide +kernel) rfl, allT8 32 (by decide +kernel) rfl, allT1 12 (by decide +kernel) rfl, allT8 33 (by decide +kernel) rfl⟩, by decide +kernel, by decide +kernel, by decide +kernel⟩
theorem lk_L_85 : Cond.methodLink RL 85 yX10_hour ∈ ALL := allT4 26 (by decide +kernel) rfl
theorem lk_L_88 : Cond.methodLink RL 88 yX11_hour ∈ ALL := allT8 30 (by decide +kernel) rfl
theorem lw_hour (X : Cx θ p s m args c cL_law 7 RL) (C : LC θ s b L xs ii) (hR : 100 ≤ R.frames ∧ 8000 ≤ R.locals) (hf : cells ≤ R.cells ∧ slots ≤ R.slots) (I : Inv σ) (kk : ∀ σ1, Inv σ1 → G θ p l e R s m args below meth c 7 cells slots Q 1725 (LV θ b ii) [] σ1) : G θ p l e R s m args below meth c 7 cells slots Q 737 (LV θ b ii) [] σ := by
  obtain ⟨A, hA, hC, hM⟩ := I
  obtain ⟨r, A1, σ1, σ2, h1, h2, hA1, hC1, hM1⟩ := (Sim.two (sim_hour)) A σ hA hC hM
  have h1 : f_Game_hour σ = some (r, σ1) := h1
  have h2 : f_Model_hour σ1 = some (r, σ2) := h2
  obtain ⟨r1, r2⟩ := hR
  refine la1 X (by decide +kernel) ?_
  refine g_callV X (c_Game_hour h1) lk_L_85 my_X10_hour kd_0 (by decide) rfl (As := []) (rest := []) rfl rfl (Nat.le_of_ble_eq_true rfl) ⟨Nat.le_trans (by decide) r1, Nat.le_trans (by decide) r2⟩ hf (by decide +kernel) ?_
  refine la2 X (by decide +kernel) ?_
  refine g_callV X (c_Model_hour h2) lk_L_88 my_X11_hour kd_565 (by decide) rfl (As := []) (rest := [.int r]) rfl rfl (Nat.le_of_ble_eq_true rfl) ⟨Nat.le_trans (by decide) r1, Nat.le_trans (by decide) r2⟩ hf (by decide +kernel) ?_
  exact g_icmp_eq X (off := 980) (by decide +kernel) (tgt := 1725) (by decide) (fun _ => kk σ2 ⟨A1, hA1, hC1, hM1⟩) (fun h => absurd rfl h)
end LW
