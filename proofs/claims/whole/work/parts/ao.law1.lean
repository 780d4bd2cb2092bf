/-! the law: its cases feed, end, fault, text, thing, liking, bill -/
section LW
variable {θ : Th} {p : Program} {l : Launch} {e : Env} {R : Room} {s : State} {m : MethodId} {args : Array Value} {below : List Frame} {meth : Method} {c : Code} {cells slots : Nat} {Q : State → Prop} {σ : Mem} {b L ii : Nat} {xs : Nat → Int32}
theorem my_X10_feed : MyV yX10_feed cX10_feed 7 (some .int) 5 := ⟨⟨allT2 157 (by decide +kernel) rfl, allT2 158 (by decide +kernel) rfl, allT1 1 (by decide +kernel) rfl, allT2 159 (by decide +kernel) rfl⟩, by decide +kernel, by decide +kernel, by decide +kernel⟩
theorem my_X11_feed : MyV yX11_feed cX11_feed 6 (some .int) 5 := ⟨⟨allT6 177 (by decide +kernel) rfl, allT6 178 (by decide +kernel) rfl, allT1 12 (by decide +kernel) rfl, allT6 179 (by decide +kernel) rfl⟩, by decide +kernel, by decide +kernel, by decide +kernel⟩
theorem lk_L_19 : Cond.methodLink RL 19 yX10_feed ∈ ALL := allT2 156 (by decide +kernel) rfl
theorem lk_L_23 : Cond.methodLink RL 23 yX11_feed ∈ ALL := allT6 176 (by decide +kernel) rfl
theorem lw_feed (X : Cx θ p s m args c cL_law 7 RL) (C : LC θ s b L xs ii) (hR : 100 ≤ R.frames ∧ 8000 ≤ R.locals) (hf : cells ≤ R.cells ∧ slots ≤ R.slots) (I : Inv σ) (kk : ∀ σ1, Inv σ1 → G θ p l e R s m args below meth c 7 cells slots Q 1725 (LV θ b ii) [] σ1) : G θ p l e R s m args below meth c 7 cells slots Q 224 (LV θ b ii) [] σ := by
  obtain ⟨A, hA, hC, hM⟩ := I
  obtain ⟨r, A1, σ1, σ2, h1, h2, hA1, hC1, hM1⟩ := (Sim.two (sim_feed (xs (ii + 1)) (xs (ii + 2)) (xs (ii + 3)) (xs (ii + 4)) (xs (ii + 5)))) A σ hA hC hM
  have h1 : f_Game_feed σ (xs (ii + 1)) (xs (ii + 2)) (xs (ii + 3)) (xs (ii + 4)) (xs (ii + 5)) = some (r, σ1) := h1
  have h2 : f_Model_feed σ1 (xs (ii + 1)) (xs (ii + 2)) (xs (ii + 3)) (xs (ii + 4)) (xs (ii + 5)) = some (r, σ2) := h2
  obtain ⟨r1, r2⟩ := hR
  refine la1 X (by decide +kernel) ?_
  refine la X C 4 0 rfl rfl 1 (by decide) (by decide +kernel) ?_
  refine la X C 4 0 rfl rfl 2 (by decide) (by decide +kernel) ?_
  refine la X C 4 0 rfl rfl 3 (by decide) (by decide +kernel) ?_
  refine la X C 4 0 rfl rfl 4 (by decide) (by decide +kernel) ?_
  refine la X C 4 0 rfl rfl 5 (by decide) (by decide +kernel) ?_
  refine g_callV X (c_Game_feed h1) lk_L_19 my_X10_feed kd_0 (by decide) rfl (As := [.int (xs (ii + 1)), .int (xs (ii + 2)), .int (xs (ii + 3)), .int (xs (ii + 4)), .int (xs (ii + 5))]) (rest := []) rfl rfl (Nat.le_of_ble_eq_true rfl) ⟨Nat.le_trans (by decide) r1, Nat.le_trans (by decide) r2⟩ hf (by decide +kernel) ?_
  refine la2 X (by decide +kernel) ?_
  refine la X C 4 0 rfl rfl 1 (by decide) (by decide +kernel) ?_
  refine la X C 4 0 rfl rfl 2 (by decide) (by decide +kernel) ?_
  refine la X C 4 0 rfl rfl 3 (by decide) (by decide +kernel) ?_
  refine la X C 4 0 rfl rfl 4 (by decide) (by decide +kernel) ?_
  refine la X C 4 0 rfl rfl 5 (by decide) (by decide +kernel) ?_
  refine g_callV X (c_Model_feed h2) lk_L_23 my_X11_feed kd_565 (by decide) rfl (As := [.int (xs (ii + 1)), .int (xs (ii + 2)), .int (xs (ii + 3)), .int (xs (ii + 4)), .int (xs (ii + 5))]) (rest := [.int r]) rfl rfl (Nat.le_of_ble_eq_true rfl) ⟨Nat.le_trans (by decide) r1, Nat.le_trans (by decide) r2⟩ hf (by decide +kernel) ?_
  exact g_icmp_eq X (off := 1433) (by decide +kernel) (tgt := 1725) (by decide) (fun _ => kk σ2 ⟨A1, hA1, hC1, hM1⟩) (fun h => absurd rfl h)
theorem my_X10_end : MyV yX10_end cX10_end 2 (some .boolean) 1 := ⟨⟨allT2 169 (by decide +kernel) rfl, allT2 170 (by decide +kernel) rfl, allT1 1 (by decide +kernel) rfl, allT2 171 (by decide +kernel) rfl⟩, by decide +kernel, by decide +kernel, by decide +kernel⟩
theorem my_X11_end : MyV yX11_end cX11_end 2 (some .boolean) 1 := ⟨⟨allT6 188 (by decide +kernel) rfl, allT6 189 (by decide +kernel) rfl, allT1 12 (by decide +kernel) rfl, allT6 190 (by decide +kernel) rfl⟩, by decide +kernel, by decide +kernel, by decide +kernel⟩
theorem lk_L_24 : Cond.methodLink RL 24 yX10_end ∈ ALL := allT2 168 (by decide +kernel) rfl
theorem lk_L_28 : Cond.methodLink RL 28 yX11_end ∈ ALL := allT6 187 (by decide +kernel) rfl
theorem lw_end (X : Cx θ p s m args c cL_law 7 RL) (C : LC θ s b L xs ii) (hR : 100 ≤ R.frames ∧ 8000 ≤ R.locals) (hf : cells ≤ R.cells ∧ slots ≤ R.slots) (I : Inv σ) (kk : ∀ σ1, Inv σ1 → G θ p l e R s m args below meth c 7 cells slots Q 1725 (LV θ b ii) [] σ1) : G θ p l e R s m args below meth c 7 cells slots Q 297 (LV θ b ii) [] σ := by
  obtain ⟨A, hA, hC, hM⟩ := I
  obtain ⟨r, A1, σ1, σ2, h1, h2, hA1, hC1, hM1⟩ := (Sim.two (sim_end (xs (ii + 1)))) A σ hA hC hM
  have h1 : f_Game_end σ (xs (ii + 1)) = some (r, σ1) := h1
  have h2 : f_Model_end σ1 (xs (ii + 1)) = some (r, σ2) := h2
  obtain ⟨r1, r2⟩ := hR
  refine la1 X (by decide +kernel) ?_
  refine la X C 4 0 rfl rfl 1 (by decide) (by decide +kernel) ?_
  refine g_callV X (c_Game_end h1) lk_L_24 my_X10_end kd_0 (by decide) rfl (As := [.int (xs (ii + 1))]) (rest := []) rfl rfl (Nat.le_of_ble_eq_true rfl) ⟨Nat.le_trans (by decide) r1, Nat.le_trans (by decide) r2⟩ hf (by decide +kernel) ?_
  refine la2 X (by decide +kernel) ?_
  refine la X C 4 0 rfl rfl 1 (by decide) (by decide +kernel) ?_
  refine g_callV X (c_Model_end h2) lk_L_28 my_X11_end kd_565 (by decide) rfl (As := [.int (xs (ii + 1))]) (rest := [.int r]) rfl rfl (Nat.le_of_ble_eq_true rfl) ⟨Nat.le_trans (by decide) r1, Nat.le_trans (by decide) r2⟩ hf (by decide +kernel) ?_
  exact g_icmp_eq X (off := 1408) (by decide +kernel) (tgt := 1725) (by decide) (fun _ => kk σ2 ⟨A1, hA1, hC1, hM1⟩) (fun h => absurd rfl h)
theorem lk_L_29 : Cond.methodLink RL 29 yX10_fault ∈ ALL := allT2 172 (by decide +kernel) rfl
theorem lk_L_33 : Cond.methodLink RL 33 yX11_fault ∈ ALL := allT6 191 (by decide +kernel) rfl
theorem lw_fault (X : Cx θ p s m args c cL_law 7 RL) (C : LC θ s b L xs ii) (hR : 100 ≤ R.frames ∧ 8000 ≤ R.locals) (hf : cells ≤ R.cells ∧ slots ≤ R.slots) (I : Inv σ) (kk : ∀ σ1, Inv σ1 → G θ p l e R s m args below meth c 7 cells slots Q 1725 (LV θ b ii) [] σ1) : G θ p l e R s m args below meth c 7 cells slots Q 322 (LV θ b ii) [] σ := by
  obtain ⟨A, hA, hC, hM⟩ := I
  obtain ⟨r, A1, σ1, σ2, h1, h2, hA1, hC1, hM1⟩ := (sim_fault (xs (ii + 1))) A σ hA hC hM
  have h1 : f_Game_fault σ (xs (ii + 1)) = some (r, σ1) := h1
  have h2 : f_Model_fault σ1 (xs (ii + 1)) = some (r, σ2) := h2
  obtain ⟨r1, r2⟩ := hR
  refine la1 X (by decide +kernel) ?_
  refine la X C 4 0 rfl rfl 1 (by decide) (by decide +kernel) ?_
  refine g_callV X (c_Game_fault h1) lk_L_29 my_X10_fault kd_0 (by decide) rfl (As := [.int (xs (ii + 1))]) (rest := []) rfl rfl (Nat.le_of_ble_eq_true rfl) ⟨Nat.le_trans (by decide) r1, Nat.le_trans (by decide) r2⟩ hf (by decide +kernel) ?_
  refine la2 X (by decide +kernel) ?_
  refine la X C 4 0 rfl rfl 1 (by decide) (by decide +kernel) ?_
  refine g_callV X (c_Model_fault h2) lk_L_33 my_X11_fault kd_565 (by decide) rfl (As := [.int (xs (ii + 1))]) (rest := [.int r]) rfl rfl (Nat.le_of_ble_eq_true rfl) ⟨Nat.le_trans (by decide) r1, Nat.le_trans (by decide) r2⟩ hf (by decide +kernel) ?_
  exact g_icmp_eq X (off := 1383) (by decide +kernel) (tgt := 1725) (by decide) (fun _ => kk σ2 ⟨A1, hA1, hC1, hM1⟩) (fun h => absurd rfl h)
theorem my_X10_text : MyV yX10_text cX10_text 2 (some .int) 1 := ⟨⟨allT3 66 (by decide +kernel) rfl, allT3 67 (by decide +kernel) rfl, allT1 1 (by decide +kernel) rfl, allT3 68 (by decide +kernel) rfl⟩, by decide +kernel, by decide +kernel, by decide +kernel⟩
theorem my_X11_text : MyV yX11_text cX11_text 4 (some .int) 1 := ⟨⟨allT7 136 (by decide +kernel) rfl, allT7 137 (by decide +kernel) rfl, allT1 12 (by decide +kernel) rfl, allT7 138 (by decide +kernel) rfl⟩, by decide +kernel, by decide +kernel, by decide +kernel⟩
theorem lk_L_34 : Cond.methodLink RL 34 yX10_text ∈ ALL := allT3 65 (by decide +kernel) rfl
theorem lk_L_37 : Cond.methodLink RL 37 yX11_text ∈ ALL := allT7 135 (by decide +kernel) rfl
theorem lw_text (X : Cx θ p s m args c cL_law 7 RL) (C : LC θ s b L xs ii) (hR : 100 ≤ R.frames ∧ 8000 ≤ R.locals) (hf : cells ≤ R.cells ∧ slots ≤ R.slots) (I : Inv σ) (kk : ∀ σ1, Inv σ1 → G θ p l e R s m args below meth c 7 cells slots Q 1725 (LV θ b ii) [] σ1) : G θ p l e R s m args below meth c 7 cells slots Q 347 (LV θ b ii) [] σ := by
  obtain ⟨A, hA, hC, hM⟩ := I
  obtain ⟨r, A1, σ1, σ2, h1, h2, hA1, hC1, hM1⟩ := (sim_text (xs (ii + 1))) A σ hA hC hM
  have h1 : f_Game_text σ (xs (ii + 1)) = some (r, σ1) := h1
  have h2 : f_Model_text σ1 (xs (ii + 1)) = some (r, σ2) := h2
  obtain ⟨r1, r2⟩ := hR
  refine la1 X (by decide +kernel) ?_
  refine la X C 4 0 rfl rfl 1 (by decide) (by decide +kernel) ?_
  refine g_callV X (c_Game_text h1) lk_L_34 my_X10_text kd_0 (by decide) rfl (As := [.int (xs (ii + 1))]) (rest := []) rfl rfl (Nat.le_of_ble_eq_true rfl) ⟨Nat.le_trans (by decide) r1, Nat.le_trans (by decide) r2⟩ hf (by decide +kernel) ?_
  refine la2 X (by decide +kernel) ?_
  refine la X C 4 0 rfl rfl 1 (by decide) (by decide +kernel) ?_
  refine g_callV X (c_Model_text h2) lk_L_37 my_X11_text kd_565 (by decide) rfl (As := [.int (xs (ii + 1))]) (rest := [.int r]) rfl rfl (Nat.le_of_ble_eq_true rfl) ⟨Nat.le_trans (by decide) r1, Nat.le_trans (by decide) r2⟩ hf (by decide +kernel) ?_
  exact g_icmp_eq X (off := 1358) (by decide +kernel) (tgt := 1725) (by decide) (fun _ => kk σ2 ⟨A1, hA1, hC1, hM1⟩) (fun h => absurd rfl h)
theorem my_X10_thing : MyV yX10_thing cX10_thing 3 (some .int) 2 := ⟨⟨allT3 114 (by decide +kernel) rfl, allT3 115 (by decide +kernel) rfl, allT1 1 (by decide +kernel) rfl, allT3 116 (by decide +kernel) rfl⟩, by decide +kernel, by decide +kernel, by decide +kernel⟩
theorem my_X11_thing : MyV yX11_thing cX11_thing 3 (some .int) 2 := ⟨⟨allT7 145 (by decide +kernel) rfl, allT7 146 (by decide +kernel) rfl, allT1 12 (by decide +kernel) rfl, allT7 147 (by decide +kernel) rfl⟩, by decide +kernel, by decide +kernel, by decide +kernel⟩
theorem lk_L_38 : Cond.methodLink RL 38 yX10_thing ∈ ALL := allT3 113 (by decide +kernel) rfl
theorem lk_L_41 : Cond.methodLink RL 41 yX11_thing ∈ ALL := allT7 144 (by decide +kernel) rfl
theorem lw_thing (X : Cx θ p s m args c cL_law 7 RL) (C : LC θ s b L xs ii) (hR : 100 ≤ R.frames ∧ 8000 ≤ R.locals) (hf : cells ≤ R.cells ∧ slots ≤ R.slots) (I : Inv σ) (kk : ∀ σ1, Inv σ1 → G θ p l e R s m args below meth c 7 cells slots Q 1725 (LV θ b ii) [] σ1) : G θ p l e R s m args below meth c 7 cells slots Q 372 (LV θ b ii) [] σ := by
  obtain ⟨A, hA, hC, hM⟩ := I
  obtain ⟨r, A1, σ1, σ2, h1, h2, hA1, hC1, hM1⟩ := (Sim.two (sim_thing (xs (ii + 1)) (xs (ii + 2)))) A σ hA hC hM
  have h1 : pu (f_Game_thing σ (xs (ii + 1)) (xs (ii + 2))) σ = some (r, σ1) := h1
  obtain ⟨h1, e1⟩ := pu_some h1
  subst e1
  have h2 : f_Model_thing σ1 (xs (ii + 1)) (xs (ii + 2)) = some (r, σ2) := h2
  obtain ⟨r1, r2⟩ := hR
  refine la1 X (by decide +kernel) ?_
  refine la X C 4 0 rfl rfl 1 (by decide) (by decide +kernel) ?_
  refine la X C 4 0 rfl rfl 2 (by decide) (by decide +kernel) ?_
  refine g_callV X (c_Game_thing h1) lk_L_38 my_X10_thing kd_0 (by decide) rfl (As := [.int (xs (ii + 1)), .int (xs (ii + 2))]) (rest := []) rfl rfl (Nat.le_of_ble_eq_true rfl) ⟨Nat.le_trans (by decide) r1, Nat.le_trans (by decide) r2⟩ hf (by decide +kernel) ?_
  refine la2 X (by decide +kernel) ?_
  refine la X C 4 0 rfl rfl 1 (by decide) (by decide +kernel) ?_
  refine la X C 4 0 rfl rfl 2 (by decide) (by decide +kernel) ?_
  refine g_callV X (c_Model_thing h2) lk_L_41 my_X11_thing kd_565 (by decide) rfl (As := [.int (xs (ii + 1)), .int (xs (ii + 2))]) (rest := [.int r]) rfl rfl (Nat.le_of_ble_eq_true rfl) ⟨Nat.le_trans (by decide) r1, Nat.le_trans (by decide) r2⟩ hf (by decide +kernel) ?_
  exact g_icmp_eq X (off := 1321) (by decide +kernel) (tgt := 1725) (by decide) (fun _ => kk σ2 ⟨A1, hA1, hC1, hM1⟩) (fun h => absurd rfl h)
theorem my_X10_liking : MyV yX10_liking cX10_liking 3 (some .int) 2 := ⟨⟨allT3 131 (by decide +kernel) rfl, allT3 132 (by decide +kernel) rfl, allT1 1 (by decide +kernel) rfl, allT3 133 (by decide +kernel) rfl⟩, by decide +kernel, by decide +kernel, by decide +kernel⟩
theorem my_X11_liking : MyV yX11_liking cX11_liking 3 (some .int) 2 := ⟨⟨allT7 175 (by decide +kernel) rfl, allT7 176 (by decide +kernel) rfl, allT1 12 (by decide +kernel) rfl, allT7 177 (by decide +kernel) rfl⟩, by decide +kernel, by decide +kernel, by decide +kernel⟩
theorem lk_L_52 : Cond.methodLink RL 52 yX10_liking ∈ ALL := allT3 130 (by decide +kernel) rfl
theorem lk_L_55 : Cond.methodLink RL 55 yX11_liking ∈ ALL := allT7 174 (by decide +kernel) rfl
theorem lw_liking (X : Cx θ p s m args c cL_law 7 RL) (C : LC θ s b L xs ii) (hR : 100 ≤ R.frames ∧ 8000 ≤ R.locals) (hf : cells ≤ R.cells ∧ slots ≤ R.slots) (I : Inv σ) (kk : ∀ σ1, Inv σ1 → G θ p l e R s m args below meth c 7 cells slots Q 1725 (LV θ b ii) [] σ1) : G θ p l e R s m args below meth c 7 cells slots Q 477 (LV θ b ii) [] σ := by
  obtain ⟨A, hA, hC, hM⟩ := I
  obtain ⟨r, A1, σ1, σ2, h1, h2, hA1, hC1, hM1⟩ := (Sim.two (sim_liking (xs (ii + 1)) (xs (ii + 2)))) A σ hA hC hM
  have h1 : f_Game_liking σ (xs (ii + 1)) (xs (ii + 2)) = some (r, σ1) := h1
  have h2 : f_Model_liking σ1 (xs (ii + 1)) (xs (ii + 2)) = some (r, σ2) := h2
  obtain ⟨r1, r2⟩ := hR
  refine la1 X (by decide +kernel) ?_
  refine la X C 4 0 rfl rfl 1 (by decide) (by decide +kernel) ?_
  refine la X C 4 0 rfl rfl 2 (by decide) (by decide +kernel) ?_
  refine g_callV X (c_Game_liking h1) lk_L_52 my_X10_liking kd_0 (by decide) rfl (As := [.int (xs (ii + 1)), .int (xs (ii + 2))]) (rest := []) rfl rfl (Nat.le_of_ble_eq_true rfl) ⟨Nat.le_trans (by decide) r1, Nat.le_trans (by decide) r2⟩ hf (by decide +kernel) ?_
  refine la2 X (by decide +kernel) ?_
  refine la X C 4 0 rfl rfl 1 (by decide) (by decide +kernel) ?_
  refine la X C 4 0 rfl rfl 2 (by decide) (by decide +kernel) ?_
  refine g_callV X (c_Model_liking h2) lk_L_55 my_X11_liking kd_565 (by decide) rfl (As := [.int (xs (ii + 1)), .int (xs (ii + 2))]) (rest := [.int r]) rfl rfl (Nat.le_of_ble_eq_true rfl) ⟨Nat.le_trans (by decide) r1, Nat.le_trans (by decide) r2⟩ hf (by decide +kernel) ?_
  exact g_icmp_eq X (off := 1216) (by decide +kernel) (tgt := 1725) (by decide) (fun _ => kk σ2 ⟨A1, hA1, hC1, hM1⟩) (fun h => absurd rfl h)
theorem my_X10_bill : MyV yX10_bill cX10_bill 5 (some .int) 3 := ⟨⟨allT3 163 (by decide +kernel) rfl, allT3 164 (by decide +kernel) rfl, allT1 1 (by decide +kernel) rfl, allT3 165 (by decide +kernel) rfl⟩, by decide +kernel, by decide +kernel, by decide +kernel⟩
theorem my_X11_bill : MyV yX11_bill cX11_bill 6 (some .int) 3 := ⟨⟨allT7 203 (by decide +kernel) rfl, allT7 204 (by decide +kernel) rfl, allT1 12 (by decide +kernel) rfl, allT7 205 (by decide +kernel) rfl⟩, by decide +kernel, by decide +kernel, by decide +kernel⟩
theorem lk_L_56 : Cond.methodLink RL 56 yX10_bill ∈ ALL := allT3 162 (by decide +kernel) rfl
theorem lk_L_60 : Cond.methodLink RL 60 yX11_bill ∈ ALL := allT7 202 (by decide +kernel) rfl
theorem lw_bill (X : Cx θ p s m args c cL_law 7 RL) (C : LC θ s b L xs ii) (hR : 100 ≤ R.frames ∧ 8000 ≤ R.locals) (hf : cells ≤ R.cells ∧ slots ≤ R.slots) (I : Inv σ) (kk : ∀ σ1, Inv σ1 → G θ p l e R s m args below meth c 7 cells slots Q 1725 (LV θ b ii) [] σ1) : G θ p l e R s m args below meth c 7 cells slots Q 514 (LV θ b ii) [] σ := by
  obtain ⟨A, hA, hC, hM⟩ := I
  obtain ⟨r, A1, σ1, σ2, h1, h2, hA1, hC1, hM1⟩ := (Sim.two (sim_bill (xs (ii + 1)) (xs (ii + 2)) (xs (ii + 3)))) A σ hA hC hM
  have h1 : pu (f_Game_bill σ (xs (ii + 1)) (xs (ii + 2)) (xs (ii + 3))) σ = some (r, σ1) := h1
  obtain ⟨h1, e1⟩ := pu_some h1
  subst e1
  have h2 : f_Model_bill σ1 (xs (ii + 1)) (xs (ii + 2)) (xs (ii + 3)) = some (r, σ2) := h2
  obtain ⟨r1, r2⟩ := hR
  refine la1 X (by decide +kernel) ?_
  refine la X C 4 0 rfl rfl 1 (by decide) (by decide +kernel) ?_
  refine la X C 4 0 rfl rfl 2 (by decide) (by decide +kernel) ?_
  refine la X C 4 0 rfl rfl 3 (by decide) (by decide +kernel) ?_
  refine g_callV X (c_Game_bill h1) lk_L_56 my_X10_bill kd_0 (by decide) rfl (As := [.int (xs (ii + 1)), .int (xs (ii + 2)), .int (xs (ii + 3))]) (rest := []) rfl rfl (Nat.le_of_ble_eq_true rfl) ⟨Nat.le_trans (by decide) r1, Nat.le_trans (by decide) r2⟩ hf (by decide +kernel) ?_
  refine la2 X (by decide +kernel) ?_
  refine la X C 4 0 rfl rfl 1 (by decide) (by decide +kernel) ?_
  refine la X C 4 0 rfl rfl 2 (by decide) (by decide +kernel) ?_
  refine la X C 4 0 rfl rfl 3 (by decide) (by decide +kernel) ?_
  refine g_callV X (c_Model_bill h2) lk_L_60 my_X11_bill kd_565 (by decide) rfl (As := [.int (xs (ii + 1)), .int (xs (ii + 2)), .int (xs (ii + 3))]) (rest := [.int r]) rfl rfl (Nat.le_of_ble_eq_true rfl) ⟨Nat.le_trans (by decide) r1, Nat.le_trans (by decide) r2⟩ hf (by decide +kernel) ?_
  exact g_icmp_eq X (off := 1167) (by decide +kernel) (tgt := 1725) (by decide) (fun _ => kk σ2 ⟨A1, hA1, hC1, hM1⟩) (fun h => absurd rfl h)
end LW
