/-! buyer: what it answers -/
theorem my_X7_billsOf : MyV yX7_billsOf cX7_billsOf 4 (some .int) 1 := ⟨⟨allT5 227 (by decide +kernel) rfl, allT5 228 (by decide +kernel) rfl, allT1 3 (by decide +kernel) rfl, allT5 229 (by decide +kernel) rfl⟩, by decide +kernel, by decide +kernel, by decide +kernel⟩
theorem lk_RX10_189 : Cond.methodLink RX10 189 yX1_kindOf ∈ ALL := allT5 225 (by decide +kernel) rfl
theorem lk_RX10_198 : Cond.methodLink RX10 198 yX7_billsOf ∈ ALL := allT5 226 (by decide +kernel) rfl
section BUY
variable {θ : Th} {p : Program} {l : Launch} {e : Env} {R : Room} {s : State} {m : MethodId} {args : Array Value} {below : List Frame} {meth : Method} {c : Code} {cells slots : Nat} {Q : State → Prop}
theorem buyer_at (X : Cx θ p s m args c cX10_buyer 3 RX10) {σ : Mem} {x1 x2 v : Int32} (h : f_Game_buyer σ x1 x2 = some v) (hx0 : ¬ x2 < 0) (hx6 : x2 ≤ 6) (hR : 1 ≤ R.frames ∧ 100 ≤ R.locals) (hf : cells ≤ R.cells ∧ slots ≤ R.slots) (kk : ∀ pc, decode cX10_buyer pc = .ok (.ireturn, 1) → G θ p l e R s m args below meth c 3 cells slots Q pc [(0, .ref (be θ + 0)), (1, .int x1), (2, .int x2)] [.int v] σ) : G θ p l e R s m args below meth c 3 cells slots Q 29 [(0, .ref (be θ + 0)), (1, .int x1), (2, .int x2)] [] σ := by
  unfold f_Game_buyer at h
  refine g_iload_n X dX10_buyer_29 rfl 2 rfl ?_
  by_cases c0 : x2 = (0 : Int32)
  · replace h := (if_pos c0).symm.trans h
    subst c0
    refine g_tableIn (tgt := 68) (off := 38) X dX10_buyer_30 (by decide) (by decide) rfl (by decide) ?_
    refine g_aload_n X dX10_buyer_68 rfl 0 rfl ?_
    refine g_get X fl_RX10_35 dX10_buyer_69 kd_0 (v := .ref (be θ + 6)) rfl ?_
    refine g_get X fl_RX10_180 dX10_buyer_72 kd_6 (v := .ref (be θ + 12)) rfl ?_
    refine g_iload_n X dX10_buyer_75 rfl 1 rfl ?_
    obtain ⟨g7, h⟩ := ite_some h
    refine g_iald X kd_12 ln_12 (inb_in g7) dX10_buyer_76 ?_
    cases h
    exact kk _ dX10_buyer_77
  replace h := (if_neg c0).symm.trans h
  by_cases c1 : x2 = (1 : Int32)
  · replace h := (if_pos c1).symm.trans h
    subst c1
    refine g_tableIn (tgt := 78) (off := 48) X dX10_buyer_30 (by decide) (by decide) rfl (by decide) ?_
    refine g_aload_n X dX10_buyer_78 rfl 0 rfl ?_
    refine g_get X fl_RX10_35 dX10_buyer_79 kd_0 (v := .ref (be θ + 6)) rfl ?_
    refine g_get X fl_RX10_183 dX10_buyer_82 kd_6 (v := .ref (be θ + 13)) rfl ?_
    refine g_iload_n X dX10_buyer_85 rfl 1 rfl ?_
    obtain ⟨g7, h⟩ := ite_some h
    refine g_iald X kd_13 ln_13 (inb_in g7) dX10_buyer_86 ?_
    cases h
    exact kk _ dX10_buyer_87
  replace h := (if_neg c1).symm.trans h
  by_cases c2 : x2 = (2 : Int32)
  · replace h := (if_pos c2).symm.trans h
    subst c2
    refine g_tableIn (tgt := 88) (off := 58) X dX10_buyer_30 (by decide) (by decide) rfl (by decide) ?_
    refine g_aload_n X dX10_buyer_88 rfl 0 rfl ?_
    refine g_get X fl_RX10_52 dX10_buyer_89 kd_0 (v := .ref (be θ + 428)) rfl ?_
    refine g_get X fl_RX10_137 dX10_buyer_92 kd_428 (v := rv (be θ) (mR σ 428 1)) rfl ?_
    refine g_iload_n X dX10_buyer_95 rfl 1 rfl ?_
    obtain ⟨g4, h⟩ := ite_some h
    rw [← rv_of (β := be θ) g4 (by decide)]
    refine g_callV X (c_City_nerveOf g4 h) lk_RX10_186 my_X1_nerveOf (a := (mR σ 428 1)) (ci := 1) g4 (by decide) rfl (As := [.int x1]) (rest := []) rfl rfl (Nat.le_of_ble_eq_true rfl) ⟨by omega, by omega⟩ hf dX10_buyer_96 ?_
    exact kk _ dX10_buyer_99
  replace h := (if_neg c2).symm.trans h
  by_cases c3 : x2 = (3 : Int32)
  · replace h := (if_pos c3).symm.trans h
    subst c3
    refine g_tableIn (tgt := 100) (off := 70) X dX10_buyer_30 (by decide) (by decide) rfl (by decide) ?_
    refine g_aload_n X dX10_buyer_100 rfl 0 rfl ?_
    refine g_get X fl_RX10_52 dX10_buyer_101 kd_0 (v := .ref (be θ + 428)) rfl ?_
    refine g_get X fl_RX10_137 dX10_buyer_104 kd_428 (v := rv (be θ) (mR σ 428 1)) rfl ?_
    refine g_iload_n X dX10_buyer_107 rfl 1 rfl ?_
    obtain ⟨g4, h⟩ := ite_some h
    rw [← rv_of (β := be θ) g4 (by decide)]
    refine g_callV X (c_City_kindOf g4 h) lk_RX10_189 my_X1_kindOf (a := (mR σ 428 1)) (ci := 1) g4 (by decide) rfl (As := [.int x1]) (rest := []) rfl rfl (Nat.le_of_ble_eq_true rfl) ⟨by omega, by omega⟩ hf dX10_buyer_108 ?_
    exact kk _ dX10_buyer_111
  replace h := (if_neg c3).symm.trans h
  by_cases c4 : x2 = (4 : Int32)
  · replace h := (if_pos c4).symm.trans h
    subst c4
    refine g_tableIn (tgt := 112) (off := 82) X dX10_buyer_30 (by decide) (by decide) rfl (by decide) ?_
    refine g_aload_n X dX10_buyer_112 rfl 0 rfl ?_
    refine g_get X fl_RX10_35 dX10_buyer_113 kd_0 (v := .ref (be θ + 6)) rfl ?_
    refine g_get X fl_RX10_192 dX10_buyer_116 kd_6 (v := .ref (be θ + 11)) rfl ?_
    refine g_iload_n X dX10_buyer_119 rfl 1 rfl ?_
    obtain ⟨g7, h⟩ := ite_some h
    refine g_iald X kd_11 ln_11 (inb_in g7) dX10_buyer_120 ?_
    cases h
    exact kk _ dX10_buyer_121
  replace h := (if_neg c4).symm.trans h
  by_cases c5 : x2 = (5 : Int32)
  · replace h := (if_pos c5).symm.trans h
    subst c5
    refine g_tableIn (tgt := 122) (off := 92) X dX10_buyer_30 (by decide) (by decide) rfl (by decide) ?_
    refine g_aload_n X dX10_buyer_122 rfl 0 rfl ?_
    refine g_get X fl_RX10_35 dX10_buyer_123 kd_0 (v := .ref (be θ + 6)) rfl ?_
    refine g_iload_n X dX10_buyer_126 rfl 1 rfl ?_
    refine g_callV X (c_State_dueOf kd_6 h) lk_RX10_195 my_X7_dueOf (a := 6) (ci := 7) kd_6 (by decide) rfl (As := [.int x1]) (rest := []) rfl rfl (Nat.le_of_ble_eq_true rfl) ⟨by omega, by omega⟩ hf dX10_buyer_127 ?_
    exact kk _ dX10_buyer_130
  replace h := (if_neg c5).symm.trans h
  have e6 : x2 = 6 := by
    rcases rng0 6 x2 (by omega) with ⟨r1, -⟩ | ⟨-, r2, -⟩ | ⟨-, j, j1, rfl⟩
    · exact absurd r1 hx0
    · exact absurd hx6 (Int32.not_le.mpr r2)
    · have : j = 0 ∨ j = 1 ∨ j = 2 ∨ j = 3 ∨ j = 4 ∨ j = 5 ∨ j = 6 := by omega
      rcases this with rfl | rfl | rfl | rfl | rfl | rfl | rfl
      · exact absurd rfl c0
      · exact absurd rfl c1
      · exact absurd rfl c2
      · exact absurd rfl c3
      · exact absurd rfl c4
      · exact absurd rfl c5
      · rfl
  subst e6
  refine g_tableOut (tgt := 131) X dX10_buyer_30 (by decide) (by decide) ?_
  refine g_aload_n X dX10_buyer_131 rfl 0 rfl ?_
  refine g_get X fl_RX10_35 dX10_buyer_132 kd_0 (v := .ref (be θ + 6)) rfl ?_
  refine g_iload_n X dX10_buyer_135 rfl 1 rfl ?_
  refine g_callV X (c_State_billsOf kd_6 h) lk_RX10_198 my_X7_billsOf (a := 6) (ci := 7) kd_6 (by decide) rfl (As := [.int x1]) (rest := []) rfl rfl (Nat.le_of_ble_eq_true rfl) ⟨by omega, by omega⟩ hf dX10_buyer_136 ?_
  exact kk _ dX10_buyer_139
end BUY
