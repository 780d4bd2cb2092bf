/-! the law: its cases odds, shares, all, image, back, count -/
section LW
variable {θ : Th} {p : Program} {l : Launch} {e : Env} {R : Room} {s : State} {m : MethodId} {args : Array Value} {below : List Frame} {meth : Method} {c : Code} {cells slots : Nat} {Q : State → Prop} {σ : Mem} {b L ii : Nat} {xs : Nat → Int32}
theorem my_X10_odds : MyV yX10_odds cX10_odds 4 (some .int) 3 := ⟨⟨allT5 97 (by decide +kernel) rfl, allT5 98 (by decide +kernel) rfl, allT1 1 (by decide +kernel) rfl, allT5 99 (by decide +kernel) rfl⟩, by decide +kernel, by decide +kernel, by decide +kernel⟩
theorem my_X11_odds : MyV yX11_odds cX11_odds 4 (some .int) 3 := ⟨⟨allT8 196 (by decide +kernel) rfl, allT8 197 (by decide +kernel) rfl, allT1 12 (by decide +kernel) rfl, allT8 198 (by decide +kernel) rfl⟩, by decide +kernel, by decide +kernel, by decide +kernel⟩
theorem lk_L_177 : Cond.methodLink RL 177 yX10_odds ∈ ALL := allT5 96 (by decide +kernel) rfl
theorem lk_L_180 : Cond.methodLink RL 180 yX11_odds ∈ ALL := allT8 195 (by decide +kernel) rfl
theorem lw_odds (X : Cx θ p s m args c cL_law 7 RL) (C : LC θ s b L xs ii) (hR : 100 ≤ R.frames ∧ 8000 ≤ R.locals) (hf : cells ≤ R.cells ∧ slots ≤ R.slots) (I : Inv σ) (kk : ∀ σ1, Inv σ1 → G θ p l e R s m args below meth c 7 cells slots Q 1725 (LV θ b ii) [] σ1) : G θ p l e R s m args below meth c 7 cells slots Q 1563 (LV θ b ii) [] σ := by
  obtain ⟨A, hA, hC, hM⟩ := I
  obtain ⟨r, A1, σ1, σ2, h1, h2, hA1, hC1, hM1⟩ := (Sim.two (sim_odds (xs (ii + 1)) (xs (ii + 2)) (xs (ii + 3)))) A σ hA hC hM
  have h1 : f_Game_odds σ (xs (ii + 1)) (xs (ii + 2)) (xs (ii + 3)) = some (r, σ1) := h1
  have h2 : f_Model_odds σ1 (xs (ii + 1)) (xs (ii + 2)) (xs (ii + 3)) = some (r, σ2) := h2
  obtain ⟨r1, r2⟩ := hR
  refine la1 X (by decide +kernel) ?_
  refine la X C 4 0 rfl rfl 1 (by decide) (by decide +kernel) ?_
  refine la X C 4 0 rfl rfl 2 (by decide) (by decide +kernel) ?_
  refine la X C 4 0 rfl rfl 3 (by decide) (by decide +kernel) ?_
  refine g_callV X (c_Game_odds h1) lk_L_177 my_X10_odds kd_0 (by decide) rfl (As := [.int (xs (ii + 1)), .int (xs (ii + 2)), .int (xs (ii + 3))]) (rest := []) rfl rfl (Nat.le_of_ble_eq_true rfl) ⟨Nat.le_trans (by decide) r1, Nat.le_trans (by decide) r2⟩ hf (by decide +kernel) ?_
  refine la2 X (by decide +kernel) ?_
  refine la X C 4 0 rfl rfl 1 (by decide) (by decide +kernel) ?_
  refine la X C 4 0 rfl rfl 2 (by decide) (by decide +kernel) ?_
  refine la X C 4 0 rfl rfl 3 (by decide) (by decide +kernel) ?_
  refine g_callV X (c_Model_odds h2) lk_L_180 my_X11_odds kd_565 (by decide) rfl (As := [.int (xs (ii + 1)), .int (xs (ii + 2)), .int (xs (ii + 3))]) (rest := [.int r]) rfl rfl (Nat.le_of_ble_eq_true rfl) ⟨Nat.le_trans (by decide) r1, Nat.le_trans (by decide) r2⟩ hf (by decide +kernel) ?_
  exact g_icmp_eq X (off := 118) (by decide +kernel) (tgt := 1725) (by decide) (fun _ => kk σ2 ⟨A1, hA1, hC1, hM1⟩) (fun h => absurd rfl h)
theorem my_X10_shares : MyV yX10_shares cX10_shares 4 (some .int) 2 := ⟨⟨allT5 109 (by decide +kernel) rfl, allT5 110 (by decide +kernel) rfl, allT1 1 (by decide +kernel) rfl, allT5 111 (by decide +kernel) rfl⟩, by decide +kernel, by decide +kernel, by decide +kernel⟩
theorem my_X11_shares : MyV yX11_shares cX11_shares 4 (some .int) 2 := ⟨⟨allT8 205 (by decide +kernel) rfl, allT8 206 (by decide +kernel) rfl, allT1 12 (by decide +kernel) rfl, allT8 207 (by decide +kernel) rfl⟩, by decide +kernel, by decide +kernel, by decide +kernel⟩
theorem lk_L_181 : Cond.methodLink RL 181 yX10_shares ∈ ALL := allT5 108 (by decide +kernel) rfl
theorem lk_L_184 : Cond.methodLink RL 184 yX11_shares ∈ ALL := allT8 204 (by decide +kernel) rfl
theorem lw_shares (X : Cx θ p s m args c cL_law 7 RL) (C : LC θ s b L xs ii) (hR : 100 ≤ R.frames ∧ 8000 ≤ R.locals) (hf : cells ≤ R.cells ∧ slots ≤ R.slots) (I : Inv σ) (kk : ∀ σ1, Inv σ1 → G θ p l e R s m args below meth c 7 cells slots Q 1725 (LV θ b ii) [] σ1) : G θ p l e R s m args below meth c 7 cells slots Q 1612 (LV θ b ii) [] σ := by
  obtain ⟨A, hA, hC, hM⟩ := I
  obtain ⟨r, A1, σ1, σ2, h1, h2, hA1, hC1, hM1⟩ := (Sim.two (sim_shares (xs (ii + 1)) (xs (ii + 2)))) A σ hA hC hM
  have h1 : pu (f_Game_shares σ (xs (ii + 1)) (xs (ii + 2))) σ = some (r, σ1) := h1
  obtain ⟨h1, e1⟩ := pu_some h1
  subst e1
  have h2 : f_Model_shares σ1 (xs (ii + 1)) (xs (ii + 2)) = some (r, σ2) := h2
  obtain ⟨r1, r2⟩ := hR
  refine la1 X (by decide +kernel) ?_
  refine la X C 4 0 rfl rfl 1 (by decide) (by decide +kernel) ?_
  refine la X C 4 0 rfl rfl 2 (by decide) (by decide +kernel) ?_
  refine g_callV X (c_Game_shares h1) lk_L_181 my_X10_shares kd_0 (by decide) rfl (As := [.int (xs (ii + 1)), .int (xs (ii + 2))]) (rest := []) rfl rfl (Nat.le_of_ble_eq_true rfl) ⟨Nat.le_trans (by decide) r1, Nat.le_trans (by decide) r2⟩ hf (by decide +kernel) ?_
  refine la2 X (by decide +kernel) ?_
  refine la X C 4 0 rfl rfl 1 (by decide) (by decide +kernel) ?_
  refine la X C 4 0 rfl rfl 2 (by decide) (by decide +kernel) ?_
  refine g_callV X (c_Model_shares h2) lk_L_184 my_X11_shares kd_565 (by decide) rfl (As := [.int (xs (ii + 1)), .int (xs (ii + 2))]) (rest := [.int r]) rfl rfl (Nat.le_of_ble_eq_true rfl) ⟨Nat.le_trans (by decide) r1, Nat.le_trans (by decide) r2⟩ hf (by decide +kernel) ?_
  exact g_icmp_eq X (off := 81) (by decide +kernel) (tgt := 1725) (by decide) (fun _ => kk σ2 ⟨A1, hA1, hC1, hM1⟩) (fun h => absurd rfl h)
theorem my_X10_all : MyV yX10_all cX10_all 2 (some .int) 1 := ⟨⟨allT5 114 (by decide +kernel) rfl, allT5 115 (by decide +kernel) rfl, allT1 1 (by decide +kernel) rfl, allT5 116 (by decide +kernel) rfl⟩, by decide +kernel, by decide +kernel, by decide +kernel⟩
theorem my_X11_all : MyV yX11_all cX11_all 2 (some .int) 1 := ⟨⟨allT8 209 (by decide +kernel) rfl, allT8 210 (by decide +kernel) rfl, allT1 12 (by decide +kernel) rfl, allT8 211 (by decide +kernel) rfl⟩, by decide +kernel, by decide +kernel, by decide +kernel⟩
theorem lk_L_185 : Cond.methodLink RL 185 yX10_all ∈ ALL := allT5 113 (by decide +kernel) rfl
theorem lk_L_188 : Cond.methodLink RL 188 yX11_all ∈ ALL := allT8 208 (by decide +kernel) rfl
theorem lw_all (X : Cx θ p s m args c cL_law 7 RL) (C : LC θ s b L xs ii) (hR : 100 ≤ R.frames ∧ 8000 ≤ R.locals) (hf : cells ≤ R.cells ∧ slots ≤ R.slots) (I : Inv σ) (kk : ∀ σ1, Inv σ1 → G θ p l e R s m args below meth c 7 cells slots Q 1725 (LV θ b ii) [] σ1) : G θ p l e R s m args below meth c 7 cells slots Q 1649 (LV θ b ii) [] σ := by
  obtain ⟨A, hA, hC, hM⟩ := I
  obtain ⟨r, A1, σ1, σ2, h1, h2, hA1, hC1, hM1⟩ := (Sim.two (sim_all (xs (ii + 1)))) A σ hA hC hM
  have h1 : f_Game_all σ (xs (ii + 1)) = some (r, σ1) := h1
  have h2 : f_Model_all σ1 (xs (ii + 1)) = some (r, σ2) := h2
  obtain ⟨r1, r2⟩ := hR
  refine la1 X (by decide +kernel) ?_
  refine la X C 4 0 rfl rfl 1 (by decide) (by decide +kernel) ?_
  refine g_callV X (c_Game_all h1) lk_L_185 my_X10_all kd_0 (by decide) rfl (As := [.int (xs (ii + 1))]) (rest := []) rfl rfl (Nat.le_of_ble_eq_true rfl) ⟨Nat.le_trans (by decide) r1, Nat.le_trans (by decide) r2⟩ hf (by decide +kernel) ?_
  refine la2 X (by decide +kernel) ?_
  refine la X C 4 0 rfl rfl 1 (by decide) (by decide +kernel) ?_
  refine g_callV X (c_Model_all h2) lk_L_188 my_X11_all kd_565 (by decide) rfl (As := [.int (xs (ii + 1))]) (rest := [.int r]) rfl rfl (Nat.le_of_ble_eq_true rfl) ⟨Nat.le_trans (by decide) r1, Nat.le_trans (by decide) r2⟩ hf (by decide +kernel) ?_
  exact g_icmp_eq X (off := 56) (by decide +kernel) (tgt := 1725) (by decide) (fun _ => kk σ2 ⟨A1, hA1, hC1, hM1⟩) (fun h => absurd rfl h)
theorem my_X10_image : MyV yX10_image cX10_image 1 (some .int) 0 := ⟨⟨allT5 144 (by decide +kernel) rfl, allT5 145 (by decide +kernel) rfl, allT1 1 (by decide +kernel) rfl, allT5 146 (by decide +kernel) rfl⟩, by decide +kernel, by decide +kernel, by decide +kernel⟩
theorem my_X11_image : MyV yX11_image cX11_image 2 (some .int) 0 := ⟨⟨allT8 233 (by decide +kernel) rfl, allT8 234 (by decide +kernel) rfl, allT1 12 (by decide +kernel) rfl, allT8 235 (by decide +kernel) rfl⟩, by decide +kernel, by decide +kernel, by decide +kernel⟩
theorem lk_L_189 : Cond.methodLink RL 189 yX10_image ∈ ALL := allT5 143 (by decide +kernel) rfl
theorem lk_L_192 : Cond.methodLink RL 192 yX11_image ∈ ALL := allT8 232 (by decide +kernel) rfl
theorem lw_image (X : Cx θ p s m args c cL_law 7 RL) (C : LC θ s b L xs ii) (hR : 100 ≤ R.frames ∧ 8000 ≤ R.locals) (hf : cells ≤ R.cells ∧ slots ≤ R.slots) (I : Inv σ) (kk : ∀ σ1, Inv σ1 → G θ p l e R s m args below meth c 7 cells slots Q 1725 (LV θ b ii) [] σ1) : G θ p l e R s m args below meth c 7 cells slots Q 1674 (LV θ b ii) [] σ := by
  obtain ⟨A, hA, hC, hM⟩ := I
  obtain ⟨r, A1, σ1, σ2, h1, h2, hA1, hC1, hM1⟩ := (Sim.two (sim_image)) A σ hA hC hM
  have h1 : f_Game_image σ = some (r, σ1) := h1
  have h2 : f_Model_image σ1 = some (r, σ2) := h2
  obtain ⟨r1, r2⟩ := hR
  refine la1 X (by decide +kernel) ?_
  refine g_callV X (c_Game_image h1) lk_L_189 my_X10_image kd_0 (by decide) rfl (As := []) (rest := []) rfl rfl (Nat.le_of_ble_eq_true rfl) ⟨Nat.le_trans (by decide) r1, Nat.le_trans (by decide) r2⟩ hf (by decide +kernel) ?_
  refine la2 X (by decide +kernel) ?_
  refine g_callV X (c_Model_image h2) lk_L_192 my_X11_image kd_565 (by decide) rfl (As := []) (rest := [.int r]) rfl rfl (Nat.le_of_ble_eq_true rfl) ⟨Nat.le_trans (by decide) r1, Nat.le_trans (by decide) r2⟩ hf (by decide +kernel) ?_
  exact g_icmp_eq X (off := 43) (by decide +kernel) (tgt := 1725) (by decide) (fun _ => kk σ2 ⟨A1, hA1, hC1, hM1⟩) (fun h => absurd rfl h)
theorem my_X10_back : MyV yX10_back cX10_back 1 (some .int) 0 := ⟨⟨allT5 149 (by decide +kernel) rfl, allT5 150 (by decide +kernel) rfl, allT1 1 (by decide +kernel) rfl, allT5 151 (by decide +kernel) rfl⟩, by decide +kernel, by decide +kernel, by decide +kernel⟩
theorem my_X11_back : MyV yX11_back cX11_back 2 (some .int) 0 := ⟨⟨allT8 237 (by decide +kernel) rfl, allT8 238 (by decide +kernel) rfl, allT1 12 (by decide +kernel) rfl, allT8 239 (by decide +kernel) rfl⟩, by decide +kernel, by decide +kernel, by decide +kernel⟩
theorem lk_L_193 : Cond.methodLink RL 193 yX10_back ∈ ALL := allT5 148 (by decide +kernel) rfl
theorem lk_L_196 : Cond.methodLink RL 196 yX11_back ∈ ALL := allT8 236 (by decide +kernel) rfl
theorem lw_back (X : Cx θ p s m args c cL_law 7 RL) (C : LC θ s b L xs ii) (hR : 100 ≤ R.frames ∧ 8000 ≤ R.locals) (hf : cells ≤ R.cells ∧ slots ≤ R.slots) (I : Inv σ) (kk : ∀ σ1, Inv σ1 → G θ p l e R s m args below meth c 7 cells slots Q 1725 (LV θ b ii) [] σ1) : G θ p l e R s m args below meth c 7 cells slots Q 1687 (LV θ b ii) [] σ := by
  obtain ⟨A, hA, hC, hM⟩ := I
  obtain ⟨r, A1, σ1, σ2, h1, h2, hA1, hC1, hM1⟩ := (Sim.two (sim_back)) A σ hA hC hM
  have h1 : f_Game_back σ = some (r, σ1) := h1
  have h2 : f_Model_back σ1 = some (r, σ2) := h2
  obtain ⟨r1, r2⟩ := hR
  refine la1 X (by decide +kernel) ?_
  refine g_callV X (c_Game_back h1) lk_L_193 my_X10_back kd_0 (by decide) rfl (As := []) (rest := []) rfl rfl (Nat.le_of_ble_eq_true rfl) ⟨Nat.le_trans (by decide) r1, Nat.le_trans (by decide) r2⟩ hf (by decide +kernel) ?_
  refine la2 X (by decide +kernel) ?_
  refine g_callV X (c_Model_back h2) lk_L_196 my_X11_back kd_565 (by decide) rfl (As := []) (rest := [.int r]) rfl rfl (Nat.le_of_ble_eq_true rfl) ⟨Nat.le_trans (by decide) r1, Nat.le_trans (by decide) r2⟩ hf (by decide +kernel) ?_
  exact g_icmp_eq X (off := 30) (by decide +kernel) (tgt := 1725) (by decide) (fun _ => kk σ2 ⟨A1, hA1, hC1, hM1⟩) (fun h => absurd rfl h)
theorem my_X10_count : MyV yX10_count cX10_count 2 (some .int) 1 := ⟨⟨allT5 153 (by decide +kernel) rfl, allT5 154 (by decide +kernel) rfl, allT1 1 (by decide +kernel) rfl, allT5 155 (by decide +kernel) rfl⟩, by decide +kernel, by decide +kernel, by decide +kernel⟩
theorem my_X11_count : MyV yX11_count cX11_count 2 (some .int) 1 := ⟨⟨allT9 1 (by decide +kernel) rfl, allT9 2 (by decide +kernel) rfl, allT1 12 (by decide +kernel) rfl, allT9 3 (by decide +kernel) rfl⟩, by decide +kernel, by decide +kernel, by decide +kernel⟩
theorem lk_L_197 : Cond.methodLink RL 197 yX10_count ∈ ALL := allT5 152 (by decide +kernel) rfl
theorem lk_L_200 : Cond.methodLink RL 200 yX11_count ∈ ALL := allT9 0 (by decide +kernel) rfl
theorem lw_count (X : Cx θ p s m args c cL_law 7 RL) (C : LC θ s b L xs ii) (hR : 100 ≤ R.frames ∧ 8000 ≤ R.locals) (hf : cells ≤ R.cells ∧ slots ≤ R.slots) (I : Inv σ) (kk : ∀ σ1, Inv σ1 → G θ p l e R s m args below meth c 7 cells slots Q 1725 (LV θ b ii) [] σ1) : G θ p l e R s m args below meth c 7 cells slots Q 1700 (LV θ b ii) [] σ := by
  obtain ⟨A, hA, hC, hM⟩ := I
  obtain ⟨r, A1, σ1, σ2, h1, h2, hA1, hC1, hM1⟩ := (Sim.two (sim_count (xs (ii + 1)))) A σ hA hC hM
  have h1 : pu (f_Game_count σ (xs (ii + 1))) σ = some (r, σ1) := h1
  obtain ⟨h1, e1⟩ := pu_some h1
  subst e1
  have h2 : f_Model_count σ1 (xs (ii + 1)) = some (r, σ2) := h2
  obtain ⟨r1, r2⟩ := hR
  refine la1 X (by decide +kernel) ?_
  refine la X C 4 0 rfl rfl 1 (by decide) (by decide +kernel) ?_
  refine g_callV X (c_Game_count h1) lk_L_197 my_X10_count kd_0 (by decide) rfl (As := [.int (xs (ii + 1))]) (rest := []) rfl rfl (Nat.le_of_ble_eq_true rfl) ⟨Nat.le_trans (by decide) r1, Nat.le_trans (by decide) r2⟩ hf (by decide +kernel) ?_
  refine la2 X (by decide +kernel) ?_
  refine la X C 4 0 rfl rfl 1 (by decide) (by decide +kernel) ?_
  refine g_callV X (c_Model_count h2) lk_L_200 my_X11_count kd_565 (by decide) rfl (As := [.int (xs (ii + 1))]) (rest := [.int r]) rfl rfl (Nat.le_of_ble_eq_true rfl) ⟨Nat.le_trans (by decide) r1, Nat.le_trans (by decide) r2⟩ hf (by decide +kernel) ?_
  exact g_icmp_eq X (off := 5) (by decide +kernel) (tgt := 1725) (by decide) (fun _ => kk σ2 ⟨A1, hA1, hC1, hM1⟩) (fun h => absurd rfl h)
end LW
