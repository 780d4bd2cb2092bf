/-! the law: its cases clerk, rate, gift, years, status, undo, log -/
section LW
variable {θ : Th} {p : Program} {l : Launch} {e : Env} {R : Room} {s : State} {m : MethodId} {args : Array Value} {below : List Frame} {meth : Method} {c : Code} {cells slots : Nat} {Q : State → Prop} {σ : Mem} {b L ii : Nat} {xs : Nat → Int32}
theorem my_X10_clerk : MyV yX10_clerk cX10_clerk 2 (some .int) 1 := ⟨⟨allT4 92 (by decide +kernel) rfl, allT4 93 (by decide +kernel) rfl, allT1 1 (by decide +kernel) rfl, allT4 94 (by decide +kernel) rfl⟩, by decide +kernel, by decide +kernel, by decide +kernel⟩
theorem my_X11_clerk : MyV yX11_clerk cX11_clerk 2 (some .int) 1 := ⟨⟨allT8 62 (by decide +kernel) rfl, allT8 63 (by decide +kernel) rfl, allT1 12 (by decide +kernel) rfl, allT8 64 (by decide +kernel) rfl⟩, by decide +kernel, by decide +kernel, by decide +kernel⟩
theorem lk_L_89 : Cond.methodLink RL 89 yX10_clerk ∈ ALL := allT4 91 (by decide +kernel) rfl
theorem lk_L_92 : Cond.methodLink RL 92 yX11_clerk ∈ ALL := allT8 61 (by decide +kernel) rfl
theorem lw_clerk (X : Cx θ p s m args c cL_law 7 RL) (C : LC θ s b L xs ii) (hR : 100 ≤ R.frames ∧ 8000 ≤ R.locals) (hf : cells ≤ R.cells ∧ slots ≤ R.slots) (I : Inv σ) (kk : ∀ σ1, Inv σ1 → G θ p l e R s m args below meth c 7 cells slots Q 1725 (LV θ b ii) [] σ1) : G θ p l e R s m args below meth c 7 cells slots Q 750 (LV θ b ii) [] σ := by
  obtain ⟨A, hA, hC, hM⟩ := I
  obtain ⟨r, A1, σ1, σ2, h1, h2, hA1, hC1, hM1⟩ := (Sim.two (sim_clerk (xs (ii + 1)))) A σ hA hC hM
  have h1 : f_Game_clerk σ (xs (ii + 1)) = some (r, σ1) := h1
  have h2 : f_Model_clerk σ1 (xs (ii + 1)) = some (r, σ2) := h2
  obtain ⟨r1, r2⟩ := hR
  refine la1 X (by decide +kernel) ?_
  refine la X C 4 0 rfl rfl 1 (by decide) (by decide +kernel) ?_
  refine g_callV X (c_Game_clerk h1) lk_L_89 my_X10_clerk kd_0 (by decide) rfl (As := [.int (xs (ii + 1))]) (rest := []) rfl rfl (Nat.le_of_ble_eq_true rfl) ⟨Nat.le_trans (by decide) r1, Nat.le_trans (by decide) r2⟩ hf (by decide +kernel) ?_
  refine la2 X (by decide +kernel) ?_
  refine la X C 4 0 rfl rfl 1 (by decide) (by decide +kernel) ?_
  refine g_callV X (c_Model_clerk h2) lk_L_92 my_X11_clerk kd_565 (by decide) rfl (As := [.int (xs (ii + 1))]) (rest := [.int r]) rfl rfl (Nat.le_of_ble_eq_true rfl) ⟨Nat.le_trans (by decide) r1, Nat.le_trans (by decide) r2⟩ hf (by decide +kernel) ?_
  exact g_icmp_eq X (off := 955) (by decide +kernel) (tgt := 1725) (by decide) (fun _ => kk σ2 ⟨A1, hA1, hC1, hM1⟩) (fun h => absurd rfl h)
theorem my_X10_rate : MyV yX10_rate cX10_rate 3 (some .int) 1 := ⟨⟨allT4 101 (by decide +kernel) rfl, allT4 102 (by decide +kernel) rfl, allT1 1 (by decide +kernel) rfl, allT4 103 (by decide +kernel) rfl⟩, by decide +kernel, by decide +kernel, by decide +kernel⟩
theorem my_X11_rate : MyV yX11_rate cX11_rate 3 (some .int) 1 := ⟨⟨allT8 67 (by decide +kernel) rfl, allT8 68 (by decide +kernel) rfl, allT1 12 (by decide +kernel) rfl, allT8 69 (by decide +kernel) rfl⟩, by decide +kernel, by decide +kernel, by decide +kernel⟩
theorem lk_L_93 : Cond.methodLink RL 93 yX10_rate ∈ ALL := allT4 100 (by decide +kernel) rfl
theorem lk_L_96 : Cond.methodLink RL 96 yX11_rate ∈ ALL := allT8 66 (by decide +kernel) rfl
theorem lw_rate (X : Cx θ p s m args c cL_law 7 RL) (C : LC θ s b L xs ii) (hR : 100 ≤ R.frames ∧ 8000 ≤ R.locals) (hf : cells ≤ R.cells ∧ slots ≤ R.slots) (I : Inv σ) (kk : ∀ σ1, Inv σ1 → G θ p l e R s m args below meth c 7 cells slots Q 1725 (LV θ b ii) [] σ1) : G θ p l e R s m args below meth c 7 cells slots Q 775 (LV θ b ii) [] σ := by
  obtain ⟨A, hA, hC, hM⟩ := I
  obtain ⟨r, A1, σ1, σ2, h1, h2, hA1, hC1, hM1⟩ := (Sim.two (sim_rate (xs (ii + 1)))) A σ hA hC hM
  have h1 : f_Game_rate σ (xs (ii + 1)) = some (r, σ1) := h1
  have h2 : f_Model_rate σ1 (xs (ii + 1)) = some (r, σ2) := h2
  obtain ⟨r1, r2⟩ := hR
  refine la1 X (by decide +kernel) ?_
  refine la X C 4 0 rfl rfl 1 (by decide) (by decide +kernel) ?_
  refine g_callV X (c_Game_rate h1) lk_L_93 my_X10_rate kd_0 (by decide) rfl (As := [.int (xs (ii + 1))]) (rest := []) rfl rfl (Nat.le_of_ble_eq_true rfl) ⟨Nat.le_trans (by decide) r1, Nat.le_trans (by decide) r2⟩ hf (by decide +kernel) ?_
  refine la2 X (by decide +kernel) ?_
  refine la X C 4 0 rfl rfl 1 (by decide) (by decide +kernel) ?_
  refine g_callV X (c_Model_rate h2) lk_L_96 my_X11_rate kd_565 (by decide) rfl (As := [.int (xs (ii + 1))]) (rest := [.int r]) rfl rfl (Nat.le_of_ble_eq_true rfl) ⟨Nat.le_trans (by decide) r1, Nat.le_trans (by decide) r2⟩ hf (by decide +kernel) ?_
  exact g_icmp_eq X (off := 930) (by decide +kernel) (tgt := 1725) (by decide) (fun _ => kk σ2 ⟨A1, hA1, hC1, hM1⟩) (fun h => absurd rfl h)
theorem my_X10_gift : MyV yX10_gift cX10_gift 3 (some .int) 2 := ⟨⟨allT4 109 (by decide +kernel) rfl, allT4 110 (by decide +kernel) rfl, allT1 1 (by decide +kernel) rfl, allT4 111 (by decide +kernel) rfl⟩, by decide +kernel, by decide +kernel, by decide +kernel⟩
theorem my_X11_gift : MyV yX11_gift cX11_gift 3 (some .int) 2 := ⟨⟨allT8 72 (by decide +kernel) rfl, allT8 73 (by decide +kernel) rfl, allT1 12 (by decide +kernel) rfl, allT8 74 (by decide +kernel) rfl⟩, by decide +kernel, by decide +kernel, by decide +kernel⟩
theorem lk_L_97 : Cond.methodLink RL 97 yX10_gift ∈ ALL := allT4 108 (by decide +kernel) rfl
theorem lk_L_100 : Cond.methodLink RL 100 yX11_gift ∈ ALL := allT8 71 (by decide +kernel) rfl
theorem lw_gift (X : Cx θ p s m args c cL_law 7 RL) (C : LC θ s b L xs ii) (hR : 100 ≤ R.frames ∧ 8000 ≤ R.locals) (hf : cells ≤ R.cells ∧ slots ≤ R.slots) (I : Inv σ) (kk : ∀ σ1, Inv σ1 → G θ p l e R s m args below meth c 7 cells slots Q 1725 (LV θ b ii) [] σ1) : G θ p l e R s m args below meth c 7 cells slots Q 800 (LV θ b ii) [] σ := by
  obtain ⟨A, hA, hC, hM⟩ := I
  obtain ⟨r, A1, σ1, σ2, h1, h2, hA1, hC1, hM1⟩ := (Sim.two (sim_gift (xs (ii + 1)) (xs (ii + 2)))) A σ hA hC hM
  have h1 : f_Game_gift σ (xs (ii + 1)) (xs (ii + 2)) = some (r, σ1) := h1
  have h2 : f_Model_gift σ1 (xs (ii + 1)) (xs (ii + 2)) = some (r, σ2) := h2
  obtain ⟨r1, r2⟩ := hR
  refine la1 X (by decide +kernel) ?_
  refine la X C 4 0 rfl rfl 1 (by decide) (by decide +kernel) ?_
  refine la X C 4 0 rfl rfl 2 (by decide) (by decide +kernel) ?_
  refine g_callV X (c_Game_gift h1) lk_L_97 my_X10_gift kd_0 (by decide) rfl (As := [.int (xs (ii + 1)), .int (xs (ii + 2))]) (rest := []) rfl rfl (Nat.le_of_ble_eq_true rfl) ⟨Nat.le_trans (by decide) r1, Nat.le_trans (by decide) r2⟩ hf (by decide +kernel) ?_
  refine la2 X (by decide +kernel) ?_
  refine la X C 4 0 rfl rfl 1 (by decide) (by decide +kernel) ?_
  refine la X C 4 0 rfl rfl 2 (by decide) (by decide +kernel) ?_
  refine g_callV X (c_Model_gift h2) lk_L_100 my_X11_gift kd_565 (by decide) rfl (As := [.int (xs (ii + 1)), .int (xs (ii + 2))]) (rest := [.int r]) rfl rfl (Nat.le_of_ble_eq_true rfl) ⟨Nat.le_trans (by decide) r1, Nat.le_trans (by decide) r2⟩ hf (by decide +kernel) ?_
  exact g_icmp_eq X (off := 893) (by decide +kernel) (tgt := 1725) (by decide) (fun _ => kk σ2 ⟨A1, hA1, hC1, hM1⟩) (fun h => absurd rfl h)
theorem my_X10_years : MyV yX10_years cX10_years 5 (some .int) 2 := ⟨⟨allT4 117 (by decide +kernel) rfl, allT4 118 (by decide +kernel) rfl, allT1 1 (by decide +kernel) rfl, allT4 119 (by decide +kernel) rfl⟩, by decide +kernel, by decide +kernel, by decide +kernel⟩
theorem my_X11_years : MyV yX11_years cX11_years 6 (some .int) 2 := ⟨⟨allT8 77 (by decide +kernel) rfl, allT8 78 (by decide +kernel) rfl, allT1 12 (by decide +kernel) rfl, allT8 79 (by decide +kernel) rfl⟩, by decide +kernel, by decide +kernel, by decide +kernel⟩
theorem lk_L_103 : Cond.methodLink RL 103 yX10_years ∈ ALL := allT4 116 (by decide +kernel) rfl
theorem lk_L_107 : Cond.methodLink RL 107 yX11_years ∈ ALL := allT8 76 (by decide +kernel) rfl
theorem lw_years (X : Cx θ p s m args c cL_law 7 RL) (C : LC θ s b L xs ii) (hR : 100 ≤ R.frames ∧ 8000 ≤ R.locals) (hf : cells ≤ R.cells ∧ slots ≤ R.slots) (I : Inv σ) (kk : ∀ σ1, Inv σ1 → G θ p l e R s m args below meth c 7 cells slots Q 1725 (LV θ b ii) [] σ1) : G θ p l e R s m args below meth c 7 cells slots Q 837 (LV θ b ii) [] σ := by
  obtain ⟨A, hA, hC, hM⟩ := I
  obtain ⟨r, A1, σ1, σ2, h1, h2, hA1, hC1, hM1⟩ := (Sim.two (sim_years (xs (ii + 1)) ((((xs (ii + 2)).toInt64 <<< ((32 : Int32).toInt64 &&& 63)) ||| ((xs (ii + 3)).toInt64 &&& 4294967295))))) A σ hA hC hM
  have h1 : f_Game_years σ (xs (ii + 1)) ((((xs (ii + 2)).toInt64 <<< ((32 : Int32).toInt64 &&& 63)) ||| ((xs (ii + 3)).toInt64 &&& 4294967295))) = some (r, σ1) := h1
  have h2 : f_Model_years σ1 (xs (ii + 1)) ((((xs (ii + 2)).toInt64 <<< ((32 : Int32).toInt64 &&& 63)) ||| ((xs (ii + 3)).toInt64 &&& 4294967295))) = some (r, σ2) := h2
  obtain ⟨r1, r2⟩ := hR
  refine la1 X (by decide +kernel) ?_
  refine la X C 4 0 rfl rfl 1 (by decide) (by decide +kernel) ?_
  refine la X C 4 0 rfl rfl 2 (by decide) (by decide +kernel) ?_
  refine g_i2l X (by decide +kernel) rfl ?_
  refine g_bipush X (n := 32) (by decide +kernel) (v := 32) (by decide) ?_
  refine g_lshl X (by decide +kernel) rfl ?_
  refine la X C 4 0 rfl rfl 3 (by decide) (by decide +kernel) ?_
  refine g_i2l X (by decide +kernel) rfl ?_
  refine g_ldc2 X cl_L_101 (by decide +kernel) ?_
  refine g_land X (by decide +kernel) ?_
  refine g_lor X (by decide +kernel) ?_
  refine g_callV X (c_Game_years h1) lk_L_103 my_X10_years kd_0 (by decide) rfl (As := [.int (xs (ii + 1)), .long ((((xs (ii + 2)).toInt64 <<< ((32 : Int32).toInt64 &&& 63)) ||| ((xs (ii + 3)).toInt64 &&& 4294967295)))]) (rest := []) rfl rfl (Nat.le_of_ble_eq_true rfl) ⟨Nat.le_trans (by decide) r1, Nat.le_trans (by decide) r2⟩ hf (by decide +kernel) ?_
  refine la2 X (by decide +kernel) ?_
  refine la X C 4 0 rfl rfl 1 (by decide) (by decide +kernel) ?_
  refine la X C 4 0 rfl rfl 2 (by decide) (by decide +kernel) ?_
  refine g_i2l X (by decide +kernel) rfl ?_
  refine g_bipush X (n := 32) (by decide +kernel) (v := 32) (by decide) ?_
  refine g_lshl X (by decide +kernel) rfl ?_
  refine la X C 4 0 rfl rfl 3 (by decide) (by decide +kernel) ?_
  refine g_i2l X (by decide +kernel) rfl ?_
  refine g_ldc2 X cl_L_101 (by decide +kernel) ?_
  refine g_land X (by decide +kernel) ?_
  refine g_lor X (by decide +kernel) ?_
  refine g_callV X (c_Model_years h2) lk_L_107 my_X11_years kd_565 (by decide) rfl (As := [.int (xs (ii + 1)), .long ((((xs (ii + 2)).toInt64 <<< ((32 : Int32).toInt64 &&& 63)) ||| ((xs (ii + 3)).toInt64 &&& 4294967295)))]) (rest := [.int r]) rfl rfl (Nat.le_of_ble_eq_true rfl) ⟨Nat.le_trans (by decide) r1, Nat.le_trans (by decide) r2⟩ hf (by decide +kernel) ?_
  exact g_icmp_eq X (off := 824) (by decide +kernel) (tgt := 1725) (by decide) (fun _ => kk σ2 ⟨A1, hA1, hC1, hM1⟩) (fun h => absurd rfl h)
theorem my_X10_status : MyV yX10_status cX10_status 2 (some .int) 1 := ⟨⟨allT4 132 (by decide +kernel) rfl, allT4 133 (by decide +kernel) rfl, allT1 1 (by decide +kernel) rfl, allT4 134 (by decide +kernel) rfl⟩, by decide +kernel, by decide +kernel, by decide +kernel⟩
theorem my_X11_status : MyV yX11_status cX11_status 2 (some .int) 1 := ⟨⟨allT8 88 (by decide +kernel) rfl, allT8 89 (by decide +kernel) rfl, allT1 12 (by decide +kernel) rfl, allT8 90 (by decide +kernel) rfl⟩, by decide +kernel, by decide +kernel, by decide +kernel⟩
theorem lk_L_108 : Cond.methodLink RL 108 yX10_status ∈ ALL := allT4 131 (by decide +kernel) rfl
theorem lk_L_111 : Cond.methodLink RL 111 yX11_status ∈ ALL := allT8 87 (by decide +kernel) rfl
theorem lw_status (X : Cx θ p s m args c cL_law 7 RL) (C : LC θ s b L xs ii) (hR : 100 ≤ R.frames ∧ 8000 ≤ R.locals) (hf : cells ≤ R.cells ∧ slots ≤ R.slots) (I : Inv σ) (kk : ∀ σ1, Inv σ1 → G θ p l e R s m args below meth c 7 cells slots Q 1725 (LV θ b ii) [] σ1) : G θ p l e R s m args below meth c 7 cells slots Q 906 (LV θ b ii) [] σ := by
  obtain ⟨A, hA, hC, hM⟩ := I
  obtain ⟨r, A1, σ1, σ2, h1, h2, hA1, hC1, hM1⟩ := (Sim.two (sim_status (xs (ii + 1)))) A σ hA hC hM
  have h1 : pu (f_Game_status σ (xs (ii + 1))) σ = some (r, σ1) := h1
  obtain ⟨h1, e1⟩ := pu_some h1
  subst e1
  have h2 : f_Model_status σ1 (xs (ii + 1)) = some (r, σ2) := h2
  obtain ⟨r1, r2⟩ := hR
  refine la1 X (by decide +kernel) ?_
  refine la X C 4 0 rfl rfl 1 (by decide) (by decide +kernel) ?_
  refine g_callV X (c_Game_status h1) lk_L_108 my_X10_status kd_0 (by decide) rfl (As := [.int (xs (ii + 1))]) (rest := []) rfl rfl (Nat.le_of_ble_eq_true rfl) ⟨Nat.le_trans (by decide) r1, Nat.le_trans (by decide) r2⟩ hf (by decide +kernel) ?_
  refine la2 X (by decide +kernel) ?_
  refine la X C 4 0 rfl rfl 1 (by decide) (by decide +kernel) ?_
  refine g_callV X (c_Model_status h2) lk_L_111 my_X11_status kd_565 (by decide) rfl (As := [.int (xs (ii + 1))]) (rest := [.int r]) rfl rfl (Nat.le_of_ble_eq_true rfl) ⟨Nat.le_trans (by decide) r1, Nat.le_trans (by decide) r2⟩ hf (by decide +kernel) ?_
  exact g_icmp_eq X (off := 799) (by decide +kernel) (tgt := 1725) (by decide) (fun _ => kk σ2 ⟨A1, hA1, hC1, hM1⟩) (fun h => absurd rfl h)
theorem my_X10_undo : MyV yX10_undo cX10_undo 1 (some .int) 0 := ⟨⟨allT4 136 (by decide +kernel) rfl, allT4 137 (by decide +kernel) rfl, allT1 1 (by decide +kernel) rfl, allT4 138 (by decide +kernel) rfl⟩, by decide +kernel, by decide +kernel, by decide +kernel⟩
theorem my_X11_undo : MyV yX11_undo cX11_undo 2 (some .int) 0 := ⟨⟨allT8 92 (by decide +kernel) rfl, allT8 93 (by decide +kernel) rfl, allT1 12 (by decide +kernel) rfl, allT8 94 (by decide +kernel) rfl⟩, by decide +kernel, by decide +kernel, by decide +kernel⟩
theorem lk_L_112 : Cond.methodLink RL 112 yX10_undo ∈ ALL := allT4 135 (by decide +kernel) rfl
theorem lk_L_115 : Cond.methodLink RL 115 yX11_undo ∈ ALL := allT8 91 (by decide +kernel) rfl
theorem lw_undo (X : Cx θ p s m args c cL_law 7 RL) (C : LC θ s b L xs ii) (hR : 100 ≤ R.frames ∧ 8000 ≤ R.locals) (hf : cells ≤ R.cells ∧ slots ≤ R.slots) (I : Inv σ) (kk : ∀ σ1, Inv σ1 → G θ p l e R s m args below meth c 7 cells slots Q 1725 (LV θ b ii) [] σ1) : G θ p l e R s m args below meth c 7 cells slots Q 931 (LV θ b ii) [] σ := by
  obtain ⟨A, hA, hC, hM⟩ := I
  obtain ⟨r, A1, σ1, σ2, h1, h2, hA1, hC1, hM1⟩ := (Sim.two (sim_undo)) A σ hA hC hM
  have h1 : f_Game_undo σ = some (r, σ1) := h1
  have h2 : f_Model_undo σ1 = some (r, σ2) := h2
  obtain ⟨r1, r2⟩ := hR
  refine la1 X (by decide +kernel) ?_
  refine g_callV X (c_Game_undo h1) lk_L_112 my_X10_undo kd_0 (by decide) rfl (As := []) (rest := []) rfl rfl (Nat.le_of_ble_eq_true rfl) ⟨Nat.le_trans (by decide) r1, Nat.le_trans (by decide) r2⟩ hf (by decide +kernel) ?_
  refine la2 X (by decide +kernel) ?_
  refine g_callV X (c_Model_undo h2) lk_L_115 my_X11_undo kd_565 (by decide) rfl (As := []) (rest := [.int r]) rfl rfl (Nat.le_of_ble_eq_true rfl) ⟨Nat.le_trans (by decide) r1, Nat.le_trans (by decide) r2⟩ hf (by decide +kernel) ?_
  exact g_icmp_eq X (off := 786) (by decide +kernel) (tgt := 1725) (by decide) (fun _ => kk σ2 ⟨A1, hA1, hC1, hM1⟩) (fun h => absurd rfl h)
theorem my_X10_log : MyV yX10_log cX10_log 3 (some .int) 2 := ⟨⟨allT4 144 (by decide +kernel) rfl, allT4 145 (by decide +kernel) rfl, allT1 1 (by decide +kernel) rfl, allT4 146 (by decide +kernel) rfl⟩, by decide +kernel, by decide +kernel, by decide +kernel⟩
theorem my_X11_log : MyV yX11_log cX11_log 3 (some .int) 2 := ⟨⟨allT8 96 (by decide +kernel) rfl, allT8 97 (by decide +kernel) rfl, allT1 12 (by decide +kernel) rfl, allT8 98 (by decide +kernel) rfl⟩, by decide +kernel, by decide +kernel, by decide +kernel⟩
theorem lk_L_116 : Cond.methodLink RL 116 yX10_log ∈ ALL := allT4 143 (by decide +kernel) rfl
theorem lk_L_119 : Cond.methodLink RL 119 yX11_log ∈ ALL := allT8 95 (by decide +kernel) rfl
theorem lw_log (X : Cx θ p s m args c cL_law 7 RL) (C : LC θ s b L xs ii) (hR : 100 ≤ R.frames ∧ 8000 ≤ R.locals) (hf : cells ≤ R.cells ∧ slots ≤ R.slots) (I : Inv σ) (kk : ∀ σ1, Inv σ1 → G θ p l e R s m args below meth c 7 cells slots Q 1725 (LV θ b ii) [] σ1) : G θ p l e R s m args below meth c 7 cells slots Q 944 (LV θ b ii) [] σ := by
  obtain ⟨A, hA, hC, hM⟩ := I
  obtain ⟨r, A1, σ1, σ2, h1, h2, hA1, hC1, hM1⟩ := (Sim.two (sim_log (xs (ii + 1)) (xs (ii + 2)))) A σ hA hC hM
  have h1 : pu (f_Game_log σ (xs (ii + 1)) (xs (ii + 2))) σ = some (r, σ1) := h1
  obtain ⟨h1, e1⟩ := pu_some h1
  subst e1
  have h2 : f_Model_log σ1 (xs (ii + 1)) (xs (ii + 2)) = some (r, σ2) := h2
  obtain ⟨r1, r2⟩ := hR
  refine la1 X (by decide +kernel) ?_
  refine la X C 4 0 rfl rfl 1 (by decide) (by decide +kernel) ?_
  refine la X C 4 0 rfl rfl 2 (by decide) (by decide +kernel) ?_
  refine g_callV X (c_Game_log h1) lk_L_116 my_X10_log kd_0 (by decide) rfl (As := [.int (xs (ii + 1)), .int (xs (ii + 2))]) (rest := []) rfl rfl (Nat.le_of_ble_eq_true rfl) ⟨Nat.le_trans (by decide) r1, Nat.le_trans (by decide) r2⟩ hf (by decide +kernel) ?_
  refine la2 X (by decide +kernel) ?_
  refine la X C 4 0 rfl rfl 1 (by decide) (by decide +kernel) ?_
  refine la X C 4 0 rfl rfl 2 (by decide) (by decide +kernel) ?_
  refine g_callV X (c_Model_log h2) lk_L_119 my_X11_log kd_565 (by decide) rfl (As := [.int (xs (ii + 1)), .int (xs (ii + 2))]) (rest := [.int r]) rfl rfl (Nat.le_of_ble_eq_true rfl) ⟨Nat.le_trans (by decide) r1, Nat.le_trans (by decide) r2⟩ hf (by decide +kernel) ?_
  exact g_icmp_eq X (off := 749) (by decide +kernel) (tgt := 1725) (by decide) (fun _ => kk σ2 ⟨A1, hA1, hC1, hM1⟩) (fun h => absurd rfl h)
end LW
