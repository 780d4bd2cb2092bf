/-! the law: its cases step, run, perform, treasury, purse, whose, seek -/
section LW
variable {θ : Th} {p : Program} {l : Launch} {e : Env} {R : Room} {s : State} {m : MethodId} {args : Array Value} {below : List Frame} {meth : Method} {c : Code} {cells slots : Nat} {Q : State → Prop} {σ : Mem} {b L ii : Nat} {xs : Nat → Int32}
theorem my_X10_step : MyV yX10_step cX10_step 4 (some .int) 3 := ⟨⟨allT4 148 (by decide +kernel) rfl, allT4 149 (by decide +kernel) rfl, allT1 1 (by decide +kernel) rfl, allT4 150 (by decide +kernel) rfl⟩, by decide +kernel, by decide +kernel, by decide +kernel⟩
theorem my_X11_step : MyV yX11_step cX11_step 4 (some .int) 3 := ⟨⟨allT8 100 (by decide +kernel) rfl, allT8 101 (by decide +kernel) rfl, allT1 12 (by decide +kernel) rfl, allT8 102 (by decide +kernel) rfl⟩, by decide +kernel, by decide +kernel, by decide +kernel⟩
theorem lk_L_120 : Cond.methodLink RL 120 yX10_step ∈ ALL := allT4 147 (by decide +kernel) rfl
theorem lk_L_123 : Cond.methodLink RL 123 yX11_step ∈ ALL := allT8 99 (by decide +kernel) rfl
theorem lw_step (X : Cx θ p s m args c cL_law 7 RL) (C : LC θ s b L xs ii) (hR : 100 ≤ R.frames ∧ 8000 ≤ R.locals) (hf : cells ≤ R.cells ∧ slots ≤ R.slots) (I : Inv σ) (kk : ∀ σ1, Inv σ1 → G θ p l e R s m args below meth c 7 cells slots Q 1725 (LV θ b ii) [] σ1) : G θ p l e R s m args below meth c 7 cells slots Q 981 (LV θ b ii) [] σ := by
  obtain ⟨A, hA, hC, hM⟩ := I
  obtain ⟨r, A1, σ1, σ2, h1, h2, hA1, hC1, hM1⟩ := (Sim.two (sim_step (xs (ii + 1)) (xs (ii + 2)) (xs (ii + 3)))) A σ hA hC hM
  have h1 : pu (f_Game_step σ (xs (ii + 1)) (xs (ii + 2)) (xs (ii + 3))) σ = some (r, σ1) := h1
  obtain ⟨h1, e1⟩ := pu_some h1
  subst e1
  have h2 : f_Model_step σ1 (xs (ii + 1)) (xs (ii + 2)) (xs (ii + 3)) = some (r, σ2) := h2
  obtain ⟨r1, r2⟩ := hR
  refine la1 X (by decide +kernel) ?_
  refine la X C 4 0 rfl rfl 1 (by decide) (by decide +kernel) ?_
  refine la X C 4 0 rfl rfl 2 (by decide) (by decide +kernel) ?_
  refine la X C 4 0 rfl rfl 3 (by decide) (by decide +kernel) ?_
  refine g_callV X (c_Game_step h1) lk_L_120 my_X10_step kd_0 (by decide) rfl (As := [.int (xs (ii + 1)), .int (xs (ii + 2)), .int (xs (ii + 3))]) (rest := []) rfl rfl (Nat.le_of_ble_eq_true rfl) ⟨Nat.le_trans (by decide) r1, Nat.le_trans (by decide) r2⟩ hf (by decide +kernel) ?_
  refine la2 X (by decide +kernel) ?_
  refine la X C 4 0 rfl rfl 1 (by decide) (by decide +kernel) ?_
  refine la X C 4 0 rfl rfl 2 (by decide) (by decide +kernel) ?_
  refine la X C 4 0 rfl rfl 3 (by decide) (by decide +kernel) ?_
  refine g_callV X (c_Model_step h2) lk_L_123 my_X11_step kd_565 (by decide) rfl (As := [.int (xs (ii + 1)), .int (xs (ii + 2)), .int (xs (ii + 3))]) (rest := [.int r]) rfl rfl (Nat.le_of_ble_eq_true rfl) ⟨Nat.le_trans (by decide) r1, Nat.le_trans (by decide) r2⟩ hf (by decide +kernel) ?_
  exact g_icmp_eq X (off := 700) (by decide +kernel) (tgt := 1725) (by decide) (fun _ => kk σ2 ⟨A1, hA1, hC1, hM1⟩) (fun h => absurd rfl h)
theorem my_X10_run : MyV yX10_run cX10_run 6 (some .int) 2 := ⟨⟨allT4 156 (by decide +kernel) rfl, allT4 157 (by decide +kernel) rfl, allT1 1 (by decide +kernel) rfl, allT4 158 (by decide +kernel) rfl⟩, by decide +kernel, by decide +kernel, by decide +kernel⟩
theorem my_X11_run : MyV yX11_run cX11_run 6 (some .int) 2 := ⟨⟨allT8 108 (by decide +kernel) rfl, allT8 109 (by decide +kernel) rfl, allT1 12 (by decide +kernel) rfl, allT8 110 (by decide +kernel) rfl⟩, by decide +kernel, by decide +kernel, by decide +kernel⟩
theorem lk_L_124 : Cond.methodLink RL 124 yX10_run ∈ ALL := allT4 155 (by decide +kernel) rfl
theorem lk_L_127 : Cond.methodLink RL 127 yX11_run ∈ ALL := allT8 107 (by decide +kernel) rfl
theorem lw_run (X : Cx θ p s m args c cL_law 7 RL) (C : LC θ s b L xs ii) (hR : 100 ≤ R.frames ∧ 8000 ≤ R.locals) (hf : cells ≤ R.cells ∧ slots ≤ R.slots) (I : Inv σ) (kk : ∀ σ1, Inv σ1 → G θ p l e R s m args below meth c 7 cells slots Q 1725 (LV θ b ii) [] σ1) : G θ p l e R s m args below meth c 7 cells slots Q 1030 (LV θ b ii) [] σ := by
  obtain ⟨A, hA, hC, hM⟩ := I
  obtain ⟨r, A1, σ1, σ2, h1, h2, hA1, hC1, hM1⟩ := (Sim.two (sim_run (xs (ii + 1)) (xs (ii + 2)))) A σ hA hC hM
  have h1 : f_Game_run σ (xs (ii + 1)) (xs (ii + 2)) = some (r, σ1) := h1
  have h2 : f_Model_run σ1 (xs (ii + 1)) (xs (ii + 2)) = some (r, σ2) := h2
  obtain ⟨r1, r2⟩ := hR
  refine la1 X (by decide +kernel) ?_
  refine la X C 4 0 rfl rfl 1 (by decide) (by decide +kernel) ?_
  refine la X C 4 0 rfl rfl 2 (by decide) (by decide +kernel) ?_
  refine g_callV X (c_Game_run h1) lk_L_124 my_X10_run kd_0 (by decide) rfl (As := [.int (xs (ii + 1)), .int (xs (ii + 2))]) (rest := []) rfl rfl (Nat.le_of_ble_eq_true rfl) ⟨Nat.le_trans (by decide) r1, Nat.le_trans (by decide) r2⟩ hf (by decide +kernel) ?_
  refine la2 X (by decide +kernel) ?_
  refine la X C 4 0 rfl rfl 1 (by decide) (by decide +kernel) ?_
  refine la X C 4 0 rfl rfl 2 (by decide) (by decide +kernel) ?_
  refine g_callV X (c_Model_run h2) lk_L_127 my_X11_run kd_565 (by decide) rfl (As := [.int (xs (ii + 1)), .int (xs (ii + 2))]) (rest := [.int r]) rfl rfl (Nat.le_of_ble_eq_true rfl) ⟨Nat.le_trans (by decide) r1, Nat.le_trans (by decide) r2⟩ hf (by decide +kernel) ?_
  exact g_icmp_eq X (off := 663) (by decide +kernel) (tgt := 1725) (by decide) (fun _ => kk σ2 ⟨A1, hA1, hC1, hM1⟩) (fun h => absurd rfl h)
theorem my_X10_perform : MyV yX10_perform cX10_perform 4 (some .int) 1 := ⟨⟨allT4 184 (by decide +kernel) rfl, allT4 185 (by decide +kernel) rfl, allT1 1 (by decide +kernel) rfl, allT4 186 (by decide +kernel) rfl⟩, by decide +kernel, by decide +kernel, by decide +kernel⟩
theorem my_X11_perform : MyV yX11_perform cX11_perform 5 (some .int) 1 := ⟨⟨allT8 122 (by decide +kernel) rfl, allT8 123 (by decide +kernel) rfl, allT1 12 (by decide +kernel) rfl, allT8 124 (by decide +kernel) rfl⟩, by decide +kernel, by decide +kernel, by decide +kernel⟩
theorem lk_L_128 : Cond.methodLink RL 128 yX10_perform ∈ ALL := allT4 183 (by decide +kernel) rfl
theorem lk_L_131 : Cond.methodLink RL 131 yX11_perform ∈ ALL := allT8 121 (by decide +kernel) rfl
theorem lw_perform (X : Cx θ p s m args c cL_law 7 RL) (C : LC θ s b L xs ii) (hR : 100 ≤ R.frames ∧ 8000 ≤ R.locals) (hf : cells ≤ R.cells ∧ slots ≤ R.slots) (I : Inv σ) (kk : ∀ σ1, Inv σ1 → G θ p l e R s m args below meth c 7 cells slots Q 1725 (LV θ b ii) [] σ1) : G θ p l e R s m args below meth c 7 cells slots Q 1067 (LV θ b ii) [] σ := by
  obtain ⟨A, hA, hC, hM⟩ := I
  obtain ⟨r, A1, σ1, σ2, h1, h2, hA1, hC1, hM1⟩ := (Sim.two (sim_perform (xs (ii + 1)))) A σ hA hC hM
  have h1 : f_Game_perform σ (xs (ii + 1)) = some (r, σ1) := h1
  have h2 : f_Model_perform σ1 (xs (ii + 1)) = some (r, σ2) := h2
  obtain ⟨r1, r2⟩ := hR
  refine la1 X (by decide +kernel) ?_
  refine la X C 4 0 rfl rfl 1 (by decide) (by decide +kernel) ?_
  refine g_callV X (c_Game_perform h1) lk_L_128 my_X10_perform kd_0 (by decide) rfl (As := [.int (xs (ii + 1))]) (rest := []) rfl rfl (Nat.le_of_ble_eq_true rfl) ⟨Nat.le_trans (by decide) r1, Nat.le_trans (by decide) r2⟩ hf (by decide +kernel) ?_
  refine la2 X (by decide +kernel) ?_
  refine la X C 4 0 rfl rfl 1 (by decide) (by decide +kernel) ?_
  refine g_callV X (c_Model_perform h2) lk_L_131 my_X11_perform kd_565 (by decide) rfl (As := [.int (xs (ii + 1))]) (rest := [.int r]) rfl rfl (Nat.le_of_ble_eq_true rfl) ⟨Nat.le_trans (by decide) r1, Nat.le_trans (by decide) r2⟩ hf (by decide +kernel) ?_
  exact g_icmp_eq X (off := 638) (by decide +kernel) (tgt := 1725) (by decide) (fun _ => kk σ2 ⟨A1, hA1, hC1, hM1⟩) (fun h => absurd rfl h)
theorem my_X10_treasury : MyV yX10_treasury cX10_treasury 2 (some .int) 1 := ⟨⟨allT4 188 (by decide +kernel) rfl, allT4 189 (by decide +kernel) rfl, allT1 1 (by decide +kernel) rfl, allT4 190 (by decide +kernel) rfl⟩, by decide +kernel, by decide +kernel, by decide +kernel⟩
theorem my_X11_treasury : MyV yX11_treasury cX11_treasury 2 (some .int) 1 := ⟨⟨allT8 126 (by decide +kernel) rfl, allT8 127 (by decide +kernel) rfl, allT1 12 (by decide +kernel) rfl, allT8 128 (by decide +kernel) rfl⟩, by decide +kernel, by decide +kernel, by decide +kernel⟩
theorem lk_L_132 : Cond.methodLink RL 132 yX10_treasury ∈ ALL := allT4 187 (by decide +kernel) rfl
theorem lk_L_135 : Cond.methodLink RL 135 yX11_treasury ∈ ALL := allT8 125 (by decide +kernel) rfl
theorem lw_treasury (X : Cx θ p s m args c cL_law 7 RL) (C : LC θ s b L xs ii) (hR : 100 ≤ R.frames ∧ 8000 ≤ R.locals) (hf : cells ≤ R.cells ∧ slots ≤ R.slots) (I : Inv σ) (kk : ∀ σ1, Inv σ1 → G θ p l e R s m args below meth c 7 cells slots Q 1725 (LV θ b ii) [] σ1) : G θ p l e R s m args below meth c 7 cells slots Q 1092 (LV θ b ii) [] σ := by
  obtain ⟨A, hA, hC, hM⟩ := I
  obtain ⟨r, A1, σ1, σ2, h1, h2, hA1, hC1, hM1⟩ := (Sim.two (sim_treasury (xs (ii + 1)))) A σ hA hC hM
  have h1 : f_Game_treasury σ (xs (ii + 1)) = some (r, σ1) := h1
  have h2 : f_Model_treasury σ1 (xs (ii + 1)) = some (r, σ2) := h2
  obtain ⟨r1, r2⟩ := hR
  refine la1 X (by decide +kernel) ?_
  refine la X C 4 0 rfl rfl 1 (by decide) (by decide +kernel) ?_
  refine g_callV X (c_Game_treasury h1) lk_L_132 my_X10_treasury kd_0 (by decide) rfl (As := [.int (xs (ii + 1))]) (rest := []) rfl rfl (Nat.le_of_ble_eq_true rfl) ⟨Nat.le_trans (by decide) r1, Nat.le_trans (by decide) r2⟩ hf (by decide +kernel) ?_
  refine la2 X (by decide +kernel) ?_
  refine la X C 4 0 rfl rfl 1 (by decide) (by decide +kernel) ?_
  refine g_callV X (c_Model_treasury h2) lk_L_135 my_X11_treasury kd_565 (by decide) rfl (As := [.int (xs (ii + 1))]) (rest := [.int r]) rfl rfl (Nat.le_of_ble_eq_true rfl) ⟨Nat.le_trans (by decide) r1, Nat.le_trans (by decide) r2⟩ hf (by decide +kernel) ?_
  exact g_icmp_eq X (off := 613) (by decide +kernel) (tgt := 1725) (by decide) (fun _ => kk σ2 ⟨A1, hA1, hC1, hM1⟩) (fun h => absurd rfl h)
theorem my_X10_purse : MyV yX10_purse cX10_purse 3 (some .int) 2 := ⟨⟨allT4 197 (by decide +kernel) rfl, allT4 198 (by decide +kernel) rfl, allT1 1 (by decide +kernel) rfl, allT4 199 (by decide +kernel) rfl⟩, by decide +kernel, by decide +kernel, by decide +kernel⟩
theorem my_X11_purse : MyV yX11_purse cX11_purse 3 (some .int) 2 := ⟨⟨allT8 135 (by decide +kernel) rfl, allT8 136 (by decide +kernel) rfl, allT1 12 (by decide +kernel) rfl, allT8 137 (by decide +kernel) rfl⟩, by decide +kernel, by decide +kernel, by decide +kernel⟩
theorem lk_L_136 : Cond.methodLink RL 136 yX10_purse ∈ ALL := allT4 196 (by decide +kernel) rfl
theorem lk_L_139 : Cond.methodLink RL 139 yX11_purse ∈ ALL := allT8 134 (by decide +kernel) rfl
theorem lw_purse (X : Cx θ p s m args c cL_law 7 RL) (C : LC θ s b L xs ii) (hR : 100 ≤ R.frames ∧ 8000 ≤ R.locals) (hf : cells ≤ R.cells ∧ slots ≤ R.slots) (I : Inv σ) (kk : ∀ σ1, Inv σ1 → G θ p l e R s m args below meth c 7 cells slots Q 1725 (LV θ b ii) [] σ1) : G θ p l e R s m args below meth c 7 cells slots Q 1117 (LV θ b ii) [] σ := by
  obtain ⟨A, hA, hC, hM⟩ := I
  obtain ⟨r, A1, σ1, σ2, h1, h2, hA1, hC1, hM1⟩ := (Sim.two (sim_purse (xs (ii + 1)) (xs (ii + 2)))) A σ hA hC hM
  have h1 : f_Game_purse σ (xs (ii + 1)) (xs (ii + 2)) = some (r, σ1) := h1
  have h2 : f_Model_purse σ1 (xs (ii + 1)) (xs (ii + 2)) = some (r, σ2) := h2
  obtain ⟨r1, r2⟩ := hR
  refine la1 X (by decide +kernel) ?_
  refine la X C 4 0 rfl rfl 1 (by decide) (by decide +kernel) ?_
  refine la X C 4 0 rfl rfl 2 (by decide) (by decide +kernel) ?_
  refine g_callV X (c_Game_purse h1) lk_L_136 my_X10_purse kd_0 (by decide) rfl (As := [.int (xs (ii + 1)), .int (xs (ii + 2))]) (rest := []) rfl rfl (Nat.le_of_ble_eq_true rfl) ⟨Nat.le_trans (by decide) r1, Nat.le_trans (by decide) r2⟩ hf (by decide +kernel) ?_
  refine la2 X (by decide +kernel) ?_
  refine la X C 4 0 rfl rfl 1 (by decide) (by decide +kernel) ?_
  refine la X C 4 0 rfl rfl 2 (by decide) (by decide +kernel) ?_
  refine g_callV X (c_Model_purse h2) lk_L_139 my_X11_purse kd_565 (by decide) rfl (As := [.int (xs (ii + 1)), .int (xs (ii + 2))]) (rest := [.int r]) rfl rfl (Nat.le_of_ble_eq_true rfl) ⟨Nat.le_trans (by decide) r1, Nat.le_trans (by decide) r2⟩ hf (by decide +kernel) ?_
  exact g_icmp_eq X (off := 576) (by decide +kernel) (tgt := 1725) (by decide) (fun _ => kk σ2 ⟨A1, hA1, hC1, hM1⟩) (fun h => absurd rfl h)
theorem my_X10_whose : MyV yX10_whose cX10_whose 3 (some .int) 2 := ⟨⟨allT4 201 (by decide +kernel) rfl, allT4 202 (by decide +kernel) rfl, allT1 1 (by decide +kernel) rfl, allT4 203 (by decide +kernel) rfl⟩, by decide +kernel, by decide +kernel, by decide +kernel⟩
theorem my_X11_whose : MyV yX11_whose cX11_whose 3 (some .int) 2 := ⟨⟨allT8 139 (by decide +kernel) rfl, allT8 140 (by decide +kernel) rfl, allT1 12 (by decide +kernel) rfl, allT8 141 (by decide +kernel) rfl⟩, by decide +kernel, by decide +kernel, by decide +kernel⟩
theorem lk_L_140 : Cond.methodLink RL 140 yX10_whose ∈ ALL := allT4 200 (by decide +kernel) rfl
theorem lk_L_143 : Cond.methodLink RL 143 yX11_whose ∈ ALL := allT8 138 (by decide +kernel) rfl
theorem lw_whose (X : Cx θ p s m args c cL_law 7 RL) (C : LC θ s b L xs ii) (hR : 100 ≤ R.frames ∧ 8000 ≤ R.locals) (hf : cells ≤ R.cells ∧ slots ≤ R.slots) (I : Inv σ) (kk : ∀ σ1, Inv σ1 → G θ p l e R s m args below meth c 7 cells slots Q 1725 (LV θ b ii) [] σ1) : G θ p l e R s m args below meth c 7 cells slots Q 1154 (LV θ b ii) [] σ := by
  obtain ⟨A, hA, hC, hM⟩ := I
  obtain ⟨r, A1, σ1, σ2, h1, h2, hA1, hC1, hM1⟩ := (Sim.two (sim_whose (xs (ii + 1)) (xs (ii + 2)))) A σ hA hC hM
  have h1 : f_Game_whose σ (xs (ii + 1)) (xs (ii + 2)) = some (r, σ1) := h1
  have h2 : f_Model_whose σ1 (xs (ii + 1)) (xs (ii + 2)) = some (r, σ2) := h2
  obtain ⟨r1, r2⟩ := hR
  refine la1 X (by decide +kernel) ?_
  refine la X C 4 0 rfl rfl 1 (by decide) (by decide +kernel) ?_
  refine la X C 4 0 rfl rfl 2 (by decide) (by decide +kernel) ?_
  refine g_callV X (c_Game_whose h1) lk_L_140 my_X10_whose kd_0 (by decide) rfl (As := [.int (xs (ii + 1)), .int (xs (ii + 2))]) (rest := []) rfl rfl (Nat.le_of_ble_eq_true rfl) ⟨Nat.le_trans (by decide) r1, Nat.le_trans (by decide) r2⟩ hf (by decide +kernel) ?_
  refine la2 X (by decide +kernel) ?_
  refine la X C 4 0 rfl rfl 1 (by decide) (by decide +kernel) ?_
  refine la X C 4 0 rfl rfl 2 (by decide) (by decide +kernel) ?_
  refine g_callV X (c_Model_whose h2) lk_L_143 my_X11_whose kd_565 (by decide) rfl (As := [.int (xs (ii + 1)), .int (xs (ii + 2))]) (rest := [.int r]) rfl rfl (Nat.le_of_ble_eq_true rfl) ⟨Nat.le_trans (by decide) r1, Nat.le_trans (by decide) r2⟩ hf (by decide +kernel) ?_
  exact g_icmp_eq X (off := 539) (by decide +kernel) (tgt := 1725) (by decide) (fun _ => kk σ2 ⟨A1, hA1, hC1, hM1⟩) (fun h => absurd rfl h)
theorem my_X10_seek : MyV yX10_seek cX10_seek 4 (some .int) 3 := ⟨⟨allT4 205 (by decide +kernel) rfl, allT4 206 (by decide +kernel) rfl, allT1 1 (by decide +kernel) rfl, allT4 207 (by decide +kernel) rfl⟩, by decide +kernel, by decide +kernel, by decide +kernel⟩
theorem my_X11_seek : MyV yX11_seek cX11_seek 4 (some .int) 3 := ⟨⟨allT8 143 (by decide +kernel) rfl, allT8 144 (by decide +kernel) rfl, allT1 12 (by decide +kernel) rfl, allT8 145 (by decide +kernel) rfl⟩, by decide +kernel, by decide +kernel, by decide +kernel⟩
theorem lk_L_144 : Cond.methodLink RL 144 yX10_seek ∈ ALL := allT4 204 (by decide +kernel) rfl
theorem lk_L_147 : Cond.methodLink RL 147 yX11_seek ∈ ALL := allT8 142 (by decide +kernel) rfl
theorem lw_seek (X : Cx θ p s m args c cL_law 7 RL) (C : LC θ s b L xs ii) (hR : 100 ≤ R.frames ∧ 8000 ≤ R.locals) (hf : cells ≤ R.cells ∧ slots ≤ R.slots) (I : Inv σ) (kk : ∀ σ1, Inv σ1 → G θ p l e R s m args below meth c 7 cells slots Q 1725 (LV θ b ii) [] σ1) : G θ p l e R s m args below meth c 7 cells slots Q 1191 (LV θ b ii) [] σ := by
  obtain ⟨A, hA, hC, hM⟩ := I
  obtain ⟨r, A1, σ1, σ2, h1, h2, hA1, hC1, hM1⟩ := (Sim.two (sim_seek (xs (ii + 1)) (xs (ii + 2)) (xs (ii + 3)))) A σ hA hC hM
  have h1 : f_Game_seek σ (xs (ii + 1)) (xs (ii + 2)) (xs (ii + 3)) = some (r, σ1) := h1
  have h2 : f_Model_seek σ1 (xs (ii + 1)) (xs (ii + 2)) (xs (ii + 3)) = some (r, σ2) := h2
  obtain ⟨r1, r2⟩ := hR
  refine la1 X (by decide +kernel) ?_
  refine la X C 4 0 rfl rfl 1 (by decide) (by decide +kernel) ?_
  refine la X C 4 0 rfl rfl 2 (by decide) (by decide +kernel) ?_
  refine la X C 4 0 rfl rfl 3 (by decide) (by decide +kernel) ?_
  refine g_callV X (c_Game_seek h1) lk_L_144 my_X10_seek kd_0 (by decide) rfl (As := [.int (xs (ii + 1)), .int (xs (ii + 2)), .int (xs (ii + 3))]) (rest := []) rfl rfl (Nat.le_of_ble_eq_true rfl) ⟨Nat.le_trans (by decide) r1, Nat.le_trans (by decide) r2⟩ hf (by decide +kernel) ?_
  refine la2 X (by decide +kernel) ?_
  refine la X C 4 0 rfl rfl 1 (by decide) (by decide +kernel) ?_
  refine la X C 4 0 rfl rfl 2 (by decide) (by decide +kernel) ?_
  refine la X C 4 0 rfl rfl 3 (by decide) (by decide +kernel) ?_
  refine g_callV X (c_Model_seek h2) lk_L_147 my_X11_seek kd_565 (by decide) rfl (As := [.int (xs (ii + 1)), .int (xs (ii + 2)), .int (xs (ii + 3))]) (rest := [.int r]) rfl rfl (Nat.le_of_ble_eq_true rfl) ⟨Nat.le_trans (by decide) r1, Nat.le_trans (by decide) r2⟩ hf (by decide +kernel) ?_
  exact g_icmp_eq X (off := 490) (by decide +kernel) (tgt := 1725) (by decide) (fun _ => kk σ2 ⟨A1, hA1, hC1, hM1⟩) (fun h => absurd rfl h)
end LW
