/-! the law: its cases raises, selling, seen, desires, ask, game, rests -/
section LW
variable {θ : Th} {p : Program} {l : Launch} {e : Env} {R : Room} {s : State} {m : MethodId} {args : Array Value} {below : List Frame} {meth : Method} {c : Code} {cells slots : Nat} {Q : State → Prop} {σ : Mem} {b L ii : Nat} {xs : Nat → Int32}
theorem my_X10_raises : MyV yX10_raises cX10_raises 3 (some .int) 2 := ⟨⟨allT4 227 (by decide +kernel) rfl, allT4 228 (by decide +kernel) rfl, allT1 1 (by decide +kernel) rfl, allT4 229 (by decide +kernel) rfl⟩, by decide +kernel, by decide +kernel, by decide +kernel⟩
theorem my_X11_raises : MyV yX11_raises cX11_raises 7 (some .int) 2 := ⟨⟨allT8 155 (by decide +kernel) rfl, allT8 156 (by decide +kernel) rfl, allT1 12 (by decide +kernel) rfl, allT8 157 (by decide +kernel) rfl⟩, by decide +kernel, by decide +kernel, by decide +kernel⟩
theorem lk_L_148 : Cond.methodLink RL 148 yX10_raises ∈ ALL := allT4 226 (by decide +kernel) rfl
theorem lk_L_151 : Cond.methodLink RL 151 yX11_raises ∈ ALL := allT8 154 (by decide +kernel) rfl
theorem lw_raises (X : Cx θ p s m args c cL_law 7 RL) (C : LC θ s b L xs ii) (hR : 100 ≤ R.frames ∧ 8000 ≤ R.locals) (hf : cells ≤ R.cells ∧ slots ≤ R.slots) (I : Inv σ) (kk : ∀ σ1, Inv σ1 → G θ p l e R s m args below meth c 7 cells slots Q 1725 (LV θ b ii) [] σ1) : G θ p l e R s m args below meth c 7 cells slots Q 1240 (LV θ b ii) [] σ := by
  obtain ⟨A, hA, hC, hM⟩ := I
  obtain ⟨r, A1, σ1, σ2, h1, h2, hA1, hC1, hM1⟩ := (Sim.two (sim_raises (xs (ii + 1)) (xs (ii + 2)))) A σ hA hC hM
  have h1 : f_Game_raises σ (xs (ii + 1)) (xs (ii + 2)) = some (r, σ1) := h1
  have h2 : f_Model_raises σ1 (xs (ii + 1)) (xs (ii + 2)) = some (r, σ2) := h2
  obtain ⟨r1, r2⟩ := hR
  refine la1 X (by decide +kernel) ?_
  refine la X C 4 0 rfl rfl 1 (by decide) (by decide +kernel) ?_
  refine la X C 4 0 rfl rfl 2 (by decide) (by decide +kernel) ?_
  refine g_callV X (c_Game_raises h1) lk_L_148 my_X10_raises kd_0 (by decide) rfl (As := [.int (xs (ii + 1)), .int (xs (ii + 2))]) (rest := []) rfl rfl (Nat.le_of_ble_eq_true rfl) ⟨Nat.le_trans (by decide) r1, Nat.le_trans (by decide) r2⟩ hf (by decide +kernel) ?_
  refine la2 X (by decide +kernel) ?_
  refine la X C 4 0 rfl rfl 1 (by decide) (by decide +kernel) ?_
  refine la X C 4 0 rfl rfl 2 (by decide) (by decide +kernel) ?_
  refine g_callV X (c_Model_raises h2) lk_L_151 my_X11_raises kd_565 (by decide) rfl (As := [.int (xs (ii + 1)), .int (xs (ii + 2))]) (rest := [.int r]) rfl rfl (Nat.le_of_ble_eq_true rfl) ⟨Nat.le_trans (by decide) r1, Nat.le_trans (by decide) r2⟩ hf (by decide +kernel) ?_
  exact g_icmp_eq X (off := 453) (by decide +kernel) (tgt := 1725) (by decide) (fun _ => kk σ2 ⟨A1, hA1, hC1, hM1⟩) (fun h => absurd rfl h)
theorem my_X10_selling : MyV yX10_selling cX10_selling 3 (some .int) 2 := ⟨⟨allT4 235 (by decide +kernel) rfl, allT4 236 (by decide +kernel) rfl, allT1 1 (by decide +kernel) rfl, allT4 237 (by decide +kernel) rfl⟩, by decide +kernel, by decide +kernel, by decide +kernel⟩
theorem my_X11_selling : MyV yX11_selling cX11_selling 7 (some .int) 2 := ⟨⟨allT8 159 (by decide +kernel) rfl, allT8 160 (by decide +kernel) rfl, allT1 12 (by decide +kernel) rfl, allT8 161 (by decide +kernel) rfl⟩, by decide +kernel, by decide +kernel, by decide +kernel⟩
theorem lk_L_152 : Cond.methodLink RL 152 yX10_selling ∈ ALL := allT4 234 (by decide +kernel) rfl
theorem lk_L_155 : Cond.methodLink RL 155 yX11_selling ∈ ALL := allT8 158 (by decide +kernel) rfl
theorem lw_selling (X : Cx θ p s m args c cL_law 7 RL) (C : LC θ s b L xs ii) (hR : 100 ≤ R.frames ∧ 8000 ≤ R.locals) (hf : cells ≤ R.cells ∧ slots ≤ R.slots) (I : Inv σ) (kk : ∀ σ1, Inv σ1 → G θ p l e R s m args below meth c 7 cells slots Q 1725 (LV θ b ii) [] σ1) : G θ p l e R s m args below meth c 7 cells slots Q 1277 (LV θ b ii) [] σ := by
  obtain ⟨A, hA, hC, hM⟩ := I
  obtain ⟨r, A1, σ1, σ2, h1, h2, hA1, hC1, hM1⟩ := (Sim.two (sim_selling (xs (ii + 1)) (xs (ii + 2)))) A σ hA hC hM
  have h1 : f_Game_selling σ (xs (ii + 1)) (xs (ii + 2)) = some (r, σ1) := h1
  have h2 : f_Model_selling σ1 (xs (ii + 1)) (xs (ii + 2)) = some (r, σ2) := h2
  obtain ⟨r1, r2⟩ := hR
  refine la1 X (by decide +kernel) ?_
  refine la X C 4 0 rfl rfl 1 (by decide) (by decide +kernel) ?_
  refine la X C 4 0 rfl rfl 2 (by decide) (by decide +kernel) ?_
  refine g_callV X (c_Game_selling h1) lk_L_152 my_X10_selling kd_0 (by decide) rfl (As := [.int (xs (ii + 1)), .int (xs (ii + 2))]) (rest := []) rfl rfl (Nat.le_of_ble_eq_true rfl) ⟨Nat.le_trans (by decide) r1, Nat.le_trans (by decide) r2⟩ hf (by decide +kernel) ?_
  refine la2 X (by decide +kernel) ?_
  refine la X C 4 0 rfl rfl 1 (by decide) (by decide +kernel) ?_
  refine la X C 4 0 rfl rfl 2 (by decide) (by decide +kernel) ?_
  refine g_callV X (c_Model_selling h2) lk_L_155 my_X11_selling kd_565 (by decide) rfl (As := [.int (xs (ii + 1)), .int (xs (ii + 2))]) (rest := [.int r]) rfl rfl (Nat.le_of_ble_eq_true rfl) ⟨Nat.le_trans (by decide) r1, Nat.le_trans (by decide) r2⟩ hf (by decide +kernel) ?_
  exact g_icmp_eq X (off := 416) (by decide +kernel) (tgt := 1725) (by decide) (fun _ => kk σ2 ⟨A1, hA1, hC1, hM1⟩) (fun h => absurd rfl h)
theorem my_X10_seen : MyV yX10_seen cX10_seen 4 (some .int) 3 := ⟨⟨allT5 7 (by decide +kernel) rfl, allT5 8 (by decide +kernel) rfl, allT1 1 (by decide +kernel) rfl, allT5 9 (by decide +kernel) rfl⟩, by decide +kernel, by decide +kernel, by decide +kernel⟩
theorem my_X11_seen : MyV yX11_seen cX11_seen 4 (some .int) 3 := ⟨⟨allT8 163 (by decide +kernel) rfl, allT8 164 (by decide +kernel) rfl, allT1 12 (by decide +kernel) rfl, allT8 165 (by decide +kernel) rfl⟩, by decide +kernel, by decide +kernel, by decide +kernel⟩
theorem lk_L_156 : Cond.methodLink RL 156 yX10_seen ∈ ALL := allT5 6 (by decide +kernel) rfl
theorem lk_L_160 : Cond.methodLink RL 160 yX11_seen ∈ ALL := allT8 162 (by decide +kernel) rfl
theorem lw_seen (X : Cx θ p s m args c cL_law 7 RL) (C : LC θ s b L xs ii) (hR : 100 ≤ R.frames ∧ 8000 ≤ R.locals) (hf : cells ≤ R.cells ∧ slots ≤ R.slots) (I : Inv σ) (kk : ∀ σ1, Inv σ1 → G θ p l e R s m args below meth c 7 cells slots Q 1725 (LV θ b ii) [] σ1) : G θ p l e R s m args below meth c 7 cells slots Q 1314 (LV θ b ii) [] σ := by
  obtain ⟨A, hA, hC, hM⟩ := I
  obtain ⟨r, A1, σ1, σ2, h1, h2, hA1, hC1, hM1⟩ := (Sim.two (sim_seen (xs (ii + 1)) (xs (ii + 2)) ((zb (xs (ii + 3)))) (zb_01 _))) A σ hA hC hM
  have h1 : f_Game_seen σ (xs (ii + 1)) (xs (ii + 2)) ((zb (xs (ii + 3)))) = some (r, σ1) := h1
  have h2 : f_Model_seen σ1 (xs (ii + 1)) (xs (ii + 2)) ((zb (xs (ii + 3)))) = some (r, σ2) := h2
  obtain ⟨r1, r2⟩ := hR
  refine la1 X (by decide +kernel) ?_
  refine la X C 4 0 rfl rfl 1 (by decide) (by decide +kernel) ?_
  refine la X C 4 0 rfl rfl 2 (by decide) (by decide +kernel) ?_
  refine la X C 4 0 rfl rfl 3 (by decide) (by decide +kernel) ?_
  refine gz X (by decide +kernel) (by decide +kernel) (by decide +kernel) (by decide +kernel) ?_
  refine g_callV X (c_Game_seen h1) lk_L_156 my_X10_seen kd_0 (by decide) rfl (As := [.int (xs (ii + 1)), .int (xs (ii + 2)), .int ((zb (xs (ii + 3))))]) (rest := []) rfl rfl (Nat.le_of_ble_eq_true rfl) ⟨Nat.le_trans (by decide) r1, Nat.le_trans (by decide) r2⟩ hf (by decide +kernel) ?_
  refine la2 X (by decide +kernel) ?_
  refine la X C 4 0 rfl rfl 1 (by decide) (by decide +kernel) ?_
  refine la X C 4 0 rfl rfl 2 (by decide) (by decide +kernel) ?_
  refine la X C 4 0 rfl rfl 3 (by decide) (by decide +kernel) ?_
  refine gz X (by decide +kernel) (by decide +kernel) (by decide +kernel) (by decide +kernel) ?_
  refine g_callV X (c_Model_seen h2) lk_L_160 my_X11_seen kd_565 (by decide) rfl (As := [.int (xs (ii + 1)), .int (xs (ii + 2)), .int ((zb (xs (ii + 3))))]) (rest := [.int r]) rfl rfl (Nat.le_of_ble_eq_true rfl) ⟨Nat.le_trans (by decide) r1, Nat.le_trans (by decide) r2⟩ hf (by decide +kernel) ?_
  exact g_icmp_eq X (off := 351) (by decide +kernel) (tgt := 1725) (by decide) (fun _ => kk σ2 ⟨A1, hA1, hC1, hM1⟩) (fun h => absurd rfl h)
theorem my_X10_desires : MyV yX10_desires cX10_desires 3 (some .int) 2 := ⟨⟨allT5 15 (by decide +kernel) rfl, allT5 16 (by decide +kernel) rfl, allT1 1 (by decide +kernel) rfl, allT5 17 (by decide +kernel) rfl⟩, by decide +kernel, by decide +kernel, by decide +kernel⟩
theorem my_X11_desires : MyV yX11_desires cX11_desires 6 (some .int) 2 := ⟨⟨allT8 168 (by decide +kernel) rfl, allT8 169 (by decide +kernel) rfl, allT1 12 (by decide +kernel) rfl, allT8 170 (by decide +kernel) rfl⟩, by decide +kernel, by decide +kernel, by decide +kernel⟩
theorem lk_L_161 : Cond.methodLink RL 161 yX10_desires ∈ ALL := allT5 14 (by decide +kernel) rfl
theorem lk_L_164 : Cond.methodLink RL 164 yX11_desires ∈ ALL := allT8 167 (by decide +kernel) rfl
theorem lw_desires (X : Cx θ p s m args c cL_law 7 RL) (C : LC θ s b L xs ii) (hR : 100 ≤ R.frames ∧ 8000 ≤ R.locals) (hf : cells ≤ R.cells ∧ slots ≤ R.slots) (I : Inv σ) (kk : ∀ σ1, Inv σ1 → G θ p l e R s m args below meth c 7 cells slots Q 1725 (LV θ b ii) [] σ1) : G θ p l e R s m args below meth c 7 cells slots Q 1379 (LV θ b ii) [] σ := by
  obtain ⟨A, hA, hC, hM⟩ := I
  obtain ⟨r, A1, σ1, σ2, h1, h2, hA1, hC1, hM1⟩ := (Sim.two (sim_desires (xs (ii + 1)) (xs (ii + 2)))) A σ hA hC hM
  have h1 : f_Game_desires σ (xs (ii + 1)) (xs (ii + 2)) = some (r, σ1) := h1
  have h2 : f_Model_desires σ1 (xs (ii + 1)) (xs (ii + 2)) = some (r, σ2) := h2
  obtain ⟨r1, r2⟩ := hR
  refine la1 X (by decide +kernel) ?_
  refine la X C 4 0 rfl rfl 1 (by decide) (by decide +kernel) ?_
  refine la X C 4 0 rfl rfl 2 (by decide) (by decide +kernel) ?_
  refine g_callV X (c_Game_desires h1) lk_L_161 my_X10_desires kd_0 (by decide) rfl (As := [.int (xs (ii + 1)), .int (xs (ii + 2))]) (rest := []) rfl rfl (Nat.le_of_ble_eq_true rfl) ⟨Nat.le_trans (by decide) r1, Nat.le_trans (by decide) r2⟩ hf (by decide +kernel) ?_
  refine la2 X (by decide +kernel) ?_
  refine la X C 4 0 rfl rfl 1 (by decide) (by decide +kernel) ?_
  refine la X C 4 0 rfl rfl 2 (by decide) (by decide +kernel) ?_
  refine g_callV X (c_Model_desires h2) lk_L_164 my_X11_desires kd_565 (by decide) rfl (As := [.int (xs (ii + 1)), .int (xs (ii + 2))]) (rest := [.int r]) rfl rfl (Nat.le_of_ble_eq_true rfl) ⟨Nat.le_trans (by decide) r1, Nat.le_trans (by decide) r2⟩ hf (by decide +kernel) ?_
  exact g_icmp_eq X (off := 314) (by decide +kernel) (tgt := 1725) (by decide) (fun _ => kk σ2 ⟨A1, hA1, hC1, hM1⟩) (fun h => absurd rfl h)
theorem my_X10_ask : MyV yX10_ask cX10_ask 2 (some .int) 1 := ⟨⟨allT5 49 (by decide +kernel) rfl, allT5 50 (by decide +kernel) rfl, allT1 1 (by decide +kernel) rfl, allT5 51 (by decide +kernel) rfl⟩, by decide +kernel, by decide +kernel, by decide +kernel⟩
theorem my_X11_ask : MyV yX11_ask cX11_ask 9 (some .int) 1 := ⟨⟨allT8 176 (by decide +kernel) rfl, allT8 177 (by decide +kernel) rfl, allT1 12 (by decide +kernel) rfl, allT8 178 (by decide +kernel) rfl⟩, by decide +kernel, by decide +kernel, by decide +kernel⟩
theorem lk_L_165 : Cond.methodLink RL 165 yX10_ask ∈ ALL := allT5 48 (by decide +kernel) rfl
theorem lk_L_168 : Cond.methodLink RL 168 yX11_ask ∈ ALL := allT8 175 (by decide +kernel) rfl
theorem lw_ask (X : Cx θ p s m args c cL_law 7 RL) (C : LC θ s b L xs ii) (hR : 100 ≤ R.frames ∧ 8000 ≤ R.locals) (hf : cells ≤ R.cells ∧ slots ≤ R.slots) (I : Inv σ) (kk : ∀ σ1, Inv σ1 → G θ p l e R s m args below meth c 7 cells slots Q 1725 (LV θ b ii) [] σ1) : G θ p l e R s m args below meth c 7 cells slots Q 1416 (LV θ b ii) [] σ := by
  obtain ⟨A, hA, hC, hM⟩ := I
  obtain ⟨r, A1, σ1, σ2, h1, h2, hA1, hC1, hM1⟩ := (Sim.two (sim_ask (xs (ii + 1)))) A σ hA hC hM
  have h1 : f_Game_ask σ (xs (ii + 1)) = some (r, σ1) := h1
  have h2 : f_Model_ask σ1 (xs (ii + 1)) = some (r, σ2) := h2
  obtain ⟨r1, r2⟩ := hR
  refine la1 X (by decide +kernel) ?_
  refine la X C 4 0 rfl rfl 1 (by decide) (by decide +kernel) ?_
  refine g_callV X (c_Game_ask h1) lk_L_165 my_X10_ask kd_0 (by decide) rfl (As := [.int (xs (ii + 1))]) (rest := []) rfl rfl (Nat.le_of_ble_eq_true rfl) ⟨Nat.le_trans (by decide) r1, Nat.le_trans (by decide) r2⟩ hf (by decide +kernel) ?_
  refine la2 X (by decide +kernel) ?_
  refine la X C 4 0 rfl rfl 1 (by decide) (by decide +kernel) ?_
  refine g_callV X (c_Model_ask h2) lk_L_168 my_X11_ask kd_565 (by decide) rfl (As := [.int (xs (ii + 1))]) (rest := [.int r]) rfl rfl (Nat.le_of_ble_eq_true rfl) ⟨Nat.le_trans (by decide) r1, Nat.le_trans (by decide) r2⟩ hf (by decide +kernel) ?_
  exact g_icmp_eq X (off := 289) (by decide +kernel) (tgt := 1725) (by decide) (fun _ => kk σ2 ⟨A1, hA1, hC1, hM1⟩) (fun h => absurd rfl h)
theorem my_X10_game : MyV yX10_game cX10_game 6 (some .int) 5 := ⟨⟨allT5 62 (by decide +kernel) rfl, allT5 63 (by decide +kernel) rfl, allT1 1 (by decide +kernel) rfl, allT5 64 (by decide +kernel) rfl⟩, by decide +kernel, by decide +kernel, by decide +kernel⟩
theorem my_X11_game : MyV yX11_game cX11_game 6 (some .int) 5 := ⟨⟨allT8 180 (by decide +kernel) rfl, allT8 181 (by decide +kernel) rfl, allT1 12 (by decide +kernel) rfl, allT8 182 (by decide +kernel) rfl⟩, by decide +kernel, by decide +kernel, by decide +kernel⟩
theorem lk_L_169 : Cond.methodLink RL 169 yX10_game ∈ ALL := allT5 61 (by decide +kernel) rfl
theorem lk_L_172 : Cond.methodLink RL 172 yX11_game ∈ ALL := allT8 179 (by decide +kernel) rfl
theorem lw_game (X : Cx θ p s m args c cL_law 7 RL) (C : LC θ s b L xs ii) (hR : 100 ≤ R.frames ∧ 8000 ≤ R.locals) (hf : cells ≤ R.cells ∧ slots ≤ R.slots) (I : Inv σ) (kk : ∀ σ1, Inv σ1 → G θ p l e R s m args below meth c 7 cells slots Q 1725 (LV θ b ii) [] σ1) : G θ p l e R s m args below meth c 7 cells slots Q 1441 (LV θ b ii) [] σ := by
  obtain ⟨A, hA, hC, hM⟩ := I
  obtain ⟨r, A1, σ1, σ2, h1, h2, hA1, hC1, hM1⟩ := (Sim.two (sim_game (xs (ii + 1)) (xs (ii + 2)) (xs (ii + 3)) (xs (ii + 4)) (xs (ii + 5)))) A σ hA hC hM
  have h1 : f_Game_game σ (xs (ii + 1)) (xs (ii + 2)) (xs (ii + 3)) (xs (ii + 4)) (xs (ii + 5)) = some (r, σ1) := h1
  have h2 : f_Model_game σ1 (xs (ii + 1)) (xs (ii + 2)) (xs (ii + 3)) (xs (ii + 4)) (xs (ii + 5)) = some (r, σ2) := h2
  obtain ⟨r1, r2⟩ := hR
  refine la1 X (by decide +kernel) ?_
  refine la X C 4 0 rfl rfl 1 (by decide) (by decide +kernel) ?_
  refine la X C 4 0 rfl rfl 2 (by decide) (by decide +kernel) ?_
  refine la X C 4 0 rfl rfl 3 (by decide) (by decide +kernel) ?_
  refine la X C 4 0 rfl rfl 4 (by decide) (by decide +kernel) ?_
  refine la X C 4 0 rfl rfl 5 (by decide) (by decide +kernel) ?_
  refine g_callV X (c_Game_game h1) lk_L_169 my_X10_game kd_0 (by decide) rfl (As := [.int (xs (ii + 1)), .int (xs (ii + 2)), .int (xs (ii + 3)), .int (xs (ii + 4)), .int (xs (ii + 5))]) (rest := []) rfl rfl (Nat.le_of_ble_eq_true rfl) ⟨Nat.le_trans (by decide) r1, Nat.le_trans (by decide) r2⟩ hf (by decide +kernel) ?_
  refine la2 X (by decide +kernel) ?_
  refine la X C 4 0 rfl rfl 1 (by decide) (by decide +kernel) ?_
  refine la X C 4 0 rfl rfl 2 (by decide) (by decide +kernel) ?_
  refine la X C 4 0 rfl rfl 3 (by decide) (by decide +kernel) ?_
  refine la X C 4 0 rfl rfl 4 (by decide) (by decide +kernel) ?_
  refine la X C 4 0 rfl rfl 5 (by decide) (by decide +kernel) ?_
  refine g_callV X (c_Model_game h2) lk_L_172 my_X11_game kd_565 (by decide) rfl (As := [.int (xs (ii + 1)), .int (xs (ii + 2)), .int (xs (ii + 3)), .int (xs (ii + 4)), .int (xs (ii + 5))]) (rest := [.int r]) rfl rfl (Nat.le_of_ble_eq_true rfl) ⟨Nat.le_trans (by decide) r1, Nat.le_trans (by decide) r2⟩ hf (by decide +kernel) ?_
  exact g_icmp_eq X (off := 216) (by decide +kernel) (tgt := 1725) (by decide) (fun _ => kk σ2 ⟨A1, hA1, hC1, hM1⟩) (fun h => absurd rfl h)
theorem my_X10_rests : MyV yX10_rests cX10_rests 4 (some .int) 3 := ⟨⟨allT5 84 (by decide +kernel) rfl, allT5 85 (by decide +kernel) rfl, allT1 1 (by decide +kernel) rfl, allT5 86 (by decide +kernel) rfl⟩, by decide +kernel, by decide +kernel, by decide +kernel⟩
theorem my_X11_rests : MyV yX11_rests cX11_rests 9 (some .int) 3 := ⟨⟨allT8 192 (by decide +kernel) rfl, allT8 193 (by decide +kernel) rfl, allT1 12 (by decide +kernel) rfl, allT8 194 (by decide +kernel) rfl⟩, by decide +kernel, by decide +kernel, by decide +kernel⟩
theorem lk_L_173 : Cond.methodLink RL 173 yX10_rests ∈ ALL := allT5 83 (by decide +kernel) rfl
theorem lk_L_176 : Cond.methodLink RL 176 yX11_rests ∈ ALL := allT8 191 (by decide +kernel) rfl
theorem lw_rests (X : Cx θ p s m args c cL_law 7 RL) (C : LC θ s b L xs ii) (hR : 100 ≤ R.frames ∧ 8000 ≤ R.locals) (hf : cells ≤ R.cells ∧ slots ≤ R.slots) (I : Inv σ) (kk : ∀ σ1, Inv σ1 → G θ p l e R s m args below meth c 7 cells slots Q 1725 (LV θ b ii) [] σ1) : G θ p l e R s m args below meth c 7 cells slots Q 1514 (LV θ b ii) [] σ := by
  obtain ⟨A, hA, hC, hM⟩ := I
  obtain ⟨r, A1, σ1, σ2, h1, h2, hA1, hC1, hM1⟩ := (Sim.two (sim_rests (xs (ii + 1)) (xs (ii + 2)) (xs (ii + 3)))) A σ hA hC hM
  have h1 : f_Game_rests σ (xs (ii + 1)) (xs (ii + 2)) (xs (ii + 3)) = some (r, σ1) := h1
  have h2 : f_Model_rests σ1 (xs (ii + 1)) (xs (ii + 2)) (xs (ii + 3)) = some (r, σ2) := h2
  obtain ⟨r1, r2⟩ := hR
  refine la1 X (by decide +kernel) ?_
  refine la X C 4 0 rfl rfl 1 (by decide) (by decide +kernel) ?_
  refine la X C 4 0 rfl rfl 2 (by decide) (by decide +kernel) ?_
  refine la X C 4 0 rfl rfl 3 (by decide) (by decide +kernel) ?_
  refine g_callV X (c_Game_rests h1) lk_L_173 my_X10_rests kd_0 (by decide) rfl (As := [.int (xs (ii + 1)), .int (xs (ii + 2)), .int (xs (ii + 3))]) (rest := []) rfl rfl (Nat.le_of_ble_eq_true rfl) ⟨Nat.le_trans (by decide) r1, Nat.le_trans (by decide) r2⟩ hf (by decide +kernel) ?_
  refine la2 X (by decide +kernel) ?_
  refine la X C 4 0 rfl rfl 1 (by decide) (by decide +kernel) ?_
  refine la X C 4 0 rfl rfl 2 (by decide) (by decide +kernel) ?_
  refine la X C 4 0 rfl rfl 3 (by decide) (by decide +kernel) ?_
  refine g_callV X (c_Model_rests h2) lk_L_176 my_X11_rests kd_565 (by decide) rfl (As := [.int (xs (ii + 1)), .int (xs (ii + 2)), .int (xs (ii + 3))]) (rest := [.int r]) rfl rfl (Nat.le_of_ble_eq_true rfl) ⟨Nat.le_trans (by decide) r1, Nat.le_trans (by decide) r2⟩ hf (by decide +kernel) ?_
  exact g_icmp_eq X (off := 167) (by decide +kernel) (tgt := 1725) (by decide) (fun _ => kk σ2 ⟨A1, hA1, hC1, hM1⟩) (fun h => absurd rfl h)
end LW
