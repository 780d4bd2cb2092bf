/-! buyer: its code up to the throw, and up to the switch -/
theorem dX10_buyer_0 : decode cX10_buyer 0 = .ok (.aload_n 0, 1) := by decide +kernel
theorem dX10_buyer_1 : decode cX10_buyer 1 = .ok (.getfield 52, 3) := by decide +kernel
theorem dX10_buyer_4 : decode cX10_buyer 4 = .ok (.iload_n 1, 1) := by decide +kernel
theorem dX10_buyer_5 : decode cX10_buyer 5 = .ok (.invokevirtual 174, 3) := by decide +kernel
theorem dX10_buyer_8 : decode cX10_buyer 8 = .ok (.ifCond .eq 13, 3) := by decide +kernel
theorem dX10_buyer_11 : decode cX10_buyer 11 = .ok (.iload_n 2, 1) := by decide +kernel
theorem dX10_buyer_12 : decode cX10_buyer 12 = .ok (.ifCond .lt 9, 3) := by decide +kernel
theorem dX10_buyer_15 : decode cX10_buyer 15 = .ok (.iload_n 2, 1) := by decide +kernel
theorem dX10_buyer_16 : decode cX10_buyer 16 = .ok (.bipush 6, 2) := by decide +kernel
theorem dX10_buyer_18 : decode cX10_buyer 18 = .ok (.if_icmp .le 11, 3) := by decide +kernel
theorem dX10_buyer_21 : decode cX10_buyer 21 = .ok (.new 177, 3) := by decide +kernel
theorem dX10_buyer_24 : decode cX10_buyer 24 = .ok (.dup, 1) := by decide +kernel
theorem dX10_buyer_25 : decode cX10_buyer 25 = .ok (.invokespecial 179, 3) := by decide +kernel
theorem dX10_buyer_28 : decode cX10_buyer 28 = .ok (.athrow, 1) := by decide +kernel
theorem dX10_buyer_29 : decode cX10_buyer 29 = .ok (.iload_n 2, 1) := by decide +kernel
theorem dX10_buyer_30 : decode cX10_buyer 30 = .ok (.tableswitch 101 0 5 #[38, 48, 58, 70, 82, 92], 38) := by decide +kernel
theorem dX10_buyer_68 : decode cX10_buyer 68 = .ok (.aload_n 0, 1) := by decide +kernel
theorem dX10_buyer_69 : decode cX10_buyer 69 = .ok (.getfield 35, 3) := by decide +kernel
theorem dX10_buyer_72 : decode cX10_buyer 72 = .ok (.getfield 180, 3) := by decide +kernel
theorem dX10_buyer_75 : decode cX10_buyer 75 = .ok (.iload_n 1, 1) := by decide +kernel
theorem dX10_buyer_76 : decode cX10_buyer 76 = .ok (.iaload, 1) := by decide +kernel
theorem dX10_buyer_77 : decode cX10_buyer 77 = .ok (.ireturn, 1) := by decide +kernel
theorem dX10_buyer_78 : decode cX10_buyer 78 = .ok (.aload_n 0, 1) := by decide +kernel
theorem dX10_buyer_79 : decode cX10_buyer 79 = .ok (.getfield 35, 3) := by decide +kernel
theorem dX10_buyer_82 : decode cX10_buyer 82 = .ok (.getfield 183, 3) := by decide +kernel
theorem dX10_buyer_85 : decode cX10_buyer 85 = .ok (.iload_n 1, 1) := by decide +kernel
theorem dX10_buyer_86 : decode cX10_buyer 86 = .ok (.iaload, 1) := by decide +kernel
theorem dX10_buyer_87 : decode cX10_buyer 87 = .ok (.ireturn, 1) := by decide +kernel
theorem dX10_buyer_88 : decode cX10_buyer 88 = .ok (.aload_n 0, 1) := by decide +kernel
theorem dX10_buyer_89 : decode cX10_buyer 89 = .ok (.getfield 52, 3) := by decide +kernel
theorem dX10_buyer_92 : decode cX10_buyer 92 = .ok (.getfield 137, 3) := by decide +kernel
theorem dX10_buyer_95 : decode cX10_buyer 95 = .ok (.iload_n 1, 1) := by decide +kernel
theorem dX10_buyer_96 : decode cX10_buyer 96 = .ok (.invokevirtual 186, 3) := by decide +kernel
theorem dX10_buyer_99 : decode cX10_buyer 99 = .ok (.ireturn, 1) := by decide +kernel
theorem dX10_buyer_100 : decode cX10_buyer 100 = .ok (.aload_n 0, 1) := by decide +kernel
theorem dX10_buyer_101 : decode cX10_buyer 101 = .ok (.getfield 52, 3) := by decide +kernel
theorem dX10_buyer_104 : decode cX10_buyer 104 = .ok (.getfield 137, 3) := by decide +kernel
theorem dX10_buyer_107 : decode cX10_buyer 107 = .ok (.iload_n 1, 1) := by decide +kernel
theorem dX10_buyer_108 : decode cX10_buyer 108 = .ok (.invokevirtual 189, 3) := by decide +kernel
theorem dX10_buyer_111 : decode cX10_buyer 111 = .ok (.ireturn, 1) := by decide +kernel
theorem dX10_buyer_112 : decode cX10_buyer 112 = .ok (.aload_n 0, 1) := by decide +kernel
theorem dX10_buyer_113 : decode cX10_buyer 113 = .ok (.getfield 35, 3) := by decide +kernel
theorem dX10_buyer_116 : decode cX10_buyer 116 = .ok (.getfield 192, 3) := by decide +kernel
theorem dX10_buyer_119 : decode cX10_buyer 119 = .ok (.iload_n 1, 1) := by decide +kernel
theorem dX10_buyer_120 : decode cX10_buyer 120 = .ok (.iaload, 1) := by decide +kernel
theorem dX10_buyer_121 : decode cX10_buyer 121 = .ok (.ireturn, 1) := by decide +kernel
theorem dX10_buyer_122 : decode cX10_buyer 122 = .ok (.aload_n 0, 1) := by decide +kernel
theorem dX10_buyer_123 : decode cX10_buyer 123 = .ok (.getfield 35, 3) := by decide +kernel
theorem dX10_buyer_126 : decode cX10_buyer 126 = .ok (.iload_n 1, 1) := by decide +kernel
theorem dX10_buyer_127 : decode cX10_buyer 127 = .ok (.invokevirtual 195, 3) := by decide +kernel
theorem dX10_buyer_130 : decode cX10_buyer 130 = .ok (.ireturn, 1) := by decide +kernel
theorem dX10_buyer_131 : decode cX10_buyer 131 = .ok (.aload_n 0, 1) := by decide +kernel
theorem dX10_buyer_132 : decode cX10_buyer 132 = .ok (.getfield 35, 3) := by decide +kernel
theorem dX10_buyer_135 : decode cX10_buyer 135 = .ok (.iload_n 1, 1) := by decide +kernel
theorem dX10_buyer_136 : decode cX10_buyer 136 = .ok (.invokevirtual 198, 3) := by decide +kernel
theorem dX10_buyer_139 : decode cX10_buyer 139 = .ok (.ireturn, 1) := by decide +kernel
section BUY
variable {θ : Th} {p : Program} {l : Launch} {e : Env} {R : Room} {s : State} {m : MethodId} {args : Array Value} {below : List Frame} {meth : Method} {c : Code} {cells slots : Nat} {Q : State → Prop}
theorem buyer_in (X : Cx θ p s m args c cX10_buyer 3 RX10) {σ : Mem} {x1 x2 bad : Int32} (h : f_Game_buyerBad σ x1 x2 = some bad) (hR : 1 ≤ R.frames ∧ 100 ≤ R.locals) (hf : cells ≤ R.cells ∧ slots ≤ R.slots) (k0 : bad = 0 → ¬ x2 < 0 → x2 ≤ 6 → G θ p l e R s m args below meth c 3 cells slots Q 29 [(0, .ref (be θ + 0)), (1, .int x1), (2, .int x2)] [] σ) (k1 : bad = 1 → G θ p l e R s m args below meth c 3 cells slots Q 21 [(0, .ref (be θ + 0)), (1, .int x1), (2, .int x2)] [] σ) : G θ p l e R s m args below meth c 3 cells slots Q 0 [(0, .ref (be θ + 0)), (1, .int x1), (2, .int x2)] [] σ := by
  unfold f_Game_buyerBad at h
  refine g_aload_n X dX10_buyer_0 rfl 0 rfl ?_
  refine g_get X fl_RX10_52 dX10_buyer_1 kd_0 (v := .ref (be θ + 428)) rfl ?_
  refine g_iload_n X dX10_buyer_4 rfl 1 rfl ?_
  obtain ⟨q1, hq1, h⟩ := Option.bind_eq_some_iff.mp h
  refine g_callV X (c_Trade_isBuyer hq1) lk_RX10_174 my_X9_isBuyer (a := 428) (ci := 9) kd_428 (by decide) rfl (As := [.int x1]) (rest := []) rfl rfl (Nat.le_of_ble_eq_true rfl) ⟨by omega, by omega⟩ hf dX10_buyer_5 ?_
  refine g_if_eq (tgt := 21) X dX10_buyer_8 (by decide) (fun c2 => ?_) (fun c2 => ?_)
  · replace h := (if_pos c2).symm.trans h
    cases h
    exact k1 rfl
  · replace h := (if_neg c2).symm.trans h
    refine g_iload_n X dX10_buyer_11 rfl 2 rfl ?_
    refine g_if_lt (tgt := 21) X dX10_buyer_12 (by decide) (fun c3 => ?_) (fun c3 => ?_)
    · replace h := (if_pos c3).symm.trans h
      cases h
      exact k1 rfl
    · replace h := (if_neg c3).symm.trans h
      refine g_iload_n X dX10_buyer_15 rfl 2 rfl ?_
      refine g_bipush X dX10_buyer_16 (v := 6) (by decide) ?_
      refine g_icmp_le (tgt := 29) X dX10_buyer_18 (by decide) (fun c4 => ?_) (fun c4 => ?_)
      · replace h := (if_pos c4).symm.trans h
        cases h
        exact k0 rfl c3 c4
      · replace h := (if_neg c4).symm.trans h
        cases h
        exact k1 rfl
end BUY
