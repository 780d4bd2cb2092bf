section Z17
variable {θ : Th} {p : Program} {l : Launch} {e : Env} {s : State} {m : MethodId} {args : Array Value} {below : List Frame} {meth : Method} {c : Code}
theorem dX11_whose_0 : decode cX11_whose 0 = .ok (.aload_n 0, 1) := by decide +kernel
theorem dX11_whose_1 : decode cX11_whose 1 = .ok (.iconst 0, 1) := by decide +kernel
theorem dX11_whose_2 : decode cX11_whose 2 = .ok (.putfield 112, 3) := by decide +kernel
theorem dX11_whose_5 : decode cX11_whose 5 = .ok (.aload_n 0, 1) := by decide +kernel
theorem dX11_whose_6 : decode cX11_whose 6 = .ok (.iload_n 1, 1) := by decide +kernel
theorem dX11_whose_7 : decode cX11_whose 7 = .ok (.invokevirtual 326, 3) := by decide +kernel
theorem dX11_whose_10 : decode cX11_whose 10 = .ok (.ifCond .eq 15, 3) := by decide +kernel
theorem dX11_whose_13 : decode cX11_whose 13 = .ok (.iload_n 2, 1) := by decide +kernel
theorem dX11_whose_14 : decode cX11_whose 14 = .ok (.i2l, 1) := by decide +kernel
theorem dX11_whose_15 : decode cX11_whose 15 = .ok (.lconst 0, 1) := by decide +kernel
theorem dX11_whose_16 : decode cX11_whose 16 = .ok (.ldc2_w 474, 3) := by decide +kernel
theorem dX11_whose_19 : decode cX11_whose 19 = .ok (.invokestatic 233, 3) := by decide +kernel
theorem dX11_whose_22 : decode cX11_whose 22 = .ok (.ifCond .ne 5, 3) := by decide +kernel
theorem dX11_whose_25 : decode cX11_whose 25 = .ok (.iconst (-1), 1) := by decide +kernel
theorem dX11_whose_26 : decode cX11_whose 26 = .ok (.ireturn, 1) := by decide +kernel
theorem dX11_whose_27 : decode cX11_whose 27 = .ok (.aload_n 0, 1) := by decide +kernel
theorem dX11_whose_28 : decode cX11_whose 28 = .ok (.iload_n 2, 1) := by decide +kernel
theorem dX11_whose_29 : decode cX11_whose 29 = .ok (.invokevirtual 476, 3) := by decide +kernel
theorem dX11_whose_32 : decode cX11_whose 32 = .ok (.aload_n 0, 1) := by decide +kernel
theorem dX11_whose_33 : decode cX11_whose 33 = .ok (.getfield 64, 3) := by decide +kernel
theorem dX11_whose_36 : decode cX11_whose 36 = .ok (.iload_n 1, 1) := by decide +kernel
theorem dX11_whose_37 : decode cX11_whose 37 = .ok (.iaload, 1) := by decide +kernel
theorem dX11_whose_38 : decode cX11_whose 38 = .ok (.ireturn, 1) := by decide +kernel
def f_Model_whose (σ : Mem) (x1 : Int32) (x2 : Int32) : Option (Int32 × Mem) :=
  (f_Model_isThing (sI σ 565 0 (0 : Int32)) x1).bind fun q1 =>
  if q1 = (0 : Int32) then
    some ((-1 : Int32), (sI σ 565 0 (0 : Int32)))
  else
    (f_Model_isIn (sI σ 565 0 (0 : Int32)) ((x2).toInt64) (0 : Int64) (60 : Int64)).bind fun q3 =>
    if q3 = (0 : Int32) then
      some ((-1 : Int32), (sI σ 565 0 (0 : Int32)))
    else
      (f_Model_laysTrial (sI σ 565 0 (0 : Int32)) x2).bind fun q5 =>
      if inb x1 131 then
        some ((mI q5 579 x1.toNatClampNeg), q5)
      else none
set_option maxHeartbeats 4000000 in
set_option maxRecDepth 20000 in
theorem g_Model_whose (X : Cx θ p s m args c cX11_whose 3 RX11) (hr : meth.sig.returnType = some .int) (hlk : meth.locks = false)  {σ : Mem} {x1 : Int32} {x2 : Int32} {r : Int32 × Mem}  (h : f_Model_whose σ x1 x2 = some r) : GB θ p l e 67 s m args below meth c 3 (some (.int r.1), r.2) 0 [(0, .ref (be θ + 565)), (1, .int x1), (2, .int x2)] [] σ := by
  unfold f_Model_whose at h
  refine g_aload_n X dX11_whose_0 rfl 0 rfl ?_
  refine g_iconst X dX11_whose_1 (v := (0 : Int32)) ic_0 ?_
  refine g_putI X fl_RX11_112 dX11_whose_2 kd_565 rfl rfl rfl ?_
  refine g_aload_n X dX11_whose_5 rfl 0 rfl ?_
  refine g_iload_n X dX11_whose_6 rfl 1 rfl ?_
  obtain ⟨q1, hq1, h⟩ := Option.bind_eq_some_iff.mp h
  refine g_cV X (c_Model_isThing  hq1) lk_RX11_326 my_X11_isThing (a := 565) (ci := 11) kd_565 (by decide) rfl (As := [.int x1]) (rest := []) rfl rfl (Nat.le_of_ble_eq_true rfl) ⟨(Nat.le_of_ble_eq_true rfl), (Nat.le_of_ble_eq_true rfl)⟩ ⟨(Nat.le_of_ble_eq_true rfl), (Nat.le_of_ble_eq_true rfl)⟩ dX11_whose_7 (st' := [.int q1]) (σ' := (sI σ 565 0 (0 : Int32))) rfl rfl ?_
  refine g_if_eq (tgt := 25) X dX11_whose_10 (by decide) (fun c2 => ?_) (fun c2 => ?_)
  · replace h := (if_pos c2).symm.trans h
    refine g_iconst X dX11_whose_25 (v := (-1 : Int32)) ic_m1 ?_
    exact g_iret X hr hlk dX11_whose_26 (by cases h; rfl)
  · replace h := (if_neg c2).symm.trans h
    refine g_iload_n X dX11_whose_13 rfl 2 rfl ?_
    refine g_i2l X dX11_whose_14 (v := ((x2).toInt64)) rfl ?_
    refine g_lconst X dX11_whose_15 (v := (0 : Int64)) rfl ?_
    refine g_ldc2 X cst_RX11_474 dX11_whose_16 ?_
    obtain ⟨q3, hq3, h⟩ := Option.bind_eq_some_iff.mp h
    refine g_cS X (c_Model_isIn  hq3) lk_RX11_233 my_X11_isIn (As := [.long ((x2).toInt64), .long (0 : Int64), .long (60 : Int64)]) (rest := []) rfl rfl (Nat.le_of_ble_eq_true rfl) ⟨(Nat.le_of_ble_eq_true rfl), (Nat.le_of_ble_eq_true rfl)⟩ ⟨(Nat.le_of_ble_eq_true rfl), (Nat.le_of_ble_eq_true rfl)⟩ dX11_whose_19 (st' := [.int q3]) (σ' := (sI σ 565 0 (0 : Int32))) rfl rfl ?_
    refine g_if_ne (tgt := 27) X dX11_whose_22 (by decide) (fun c4 => ?_) (fun c4 => ?_)
    · replace h := (if_neg c4).symm.trans h
      refine g_aload_n X dX11_whose_27 rfl 0 rfl ?_
      refine g_iload_n X dX11_whose_28 rfl 2 rfl ?_
      obtain ⟨q5, hq5, h⟩ := Option.bind_eq_some_iff.mp h
      refine g_cV X (c_Model_laysTrial  hq5) lk_RX11_476 my_X11_laysTrial (a := 565) (ci := 11) kd_565 (by decide) rfl (As := [.int x2]) (rest := []) rfl rfl (Nat.le_of_ble_eq_true rfl) ⟨(Nat.le_of_ble_eq_true rfl), (Nat.le_of_ble_eq_true rfl)⟩ ⟨(Nat.le_of_ble_eq_true rfl), (Nat.le_of_ble_eq_true rfl)⟩ dX11_whose_29 (st' := []) (σ' := q5) rfl rfl ?_
      refine g_aload_n X dX11_whose_32 rfl 0 rfl ?_
      refine g_get X fl_RX11_64 dX11_whose_33 kd_565 (v := .ref (be θ + 579)) rfl ?_
      refine g_iload_n X dX11_whose_36 rfl 1 rfl ?_
      obtain ⟨g6, h⟩ := ite_some h
      refine g_iald X kd_579 ln_579 (inb_in g6) dX11_whose_37 ?_
      exact g_iret X hr hlk dX11_whose_38 (by cases h; rfl)
    · replace h := (if_pos c4).symm.trans h
      refine g_iconst X dX11_whose_25 (v := (-1 : Int32)) ic_m1 ?_
      exact g_iret X hr hlk dX11_whose_26 (by cases h; rfl)
set_option maxHeartbeats 4000000 in
set_option maxRecDepth 20000 in
theorem c_Model_whose {θ : Th} {l : Launch} {σ : Mem} {x1 : Int32} {x2 : Int32} {r : Int32 × Mem}  (h : f_Model_whose σ x1 x2 = some r) : Cn θ l yX11_whose cX11_whose 3 (some .int) 67 0 0 [.ref (be θ + 565), .int x1, .int x2] σ (some (.int r.1), r.2) :=
  Cn.of (by decide) (Nat.le_of_ble_eq_true rfl) (fun p e s m below meth c X hr hlk => g_Model_whose X hr hlk  h)
theorem dX11_triesOrder_0 : decode cX11_triesOrder 0 = .ok (.iconst 0, 1) := by decide +kernel
theorem dX11_triesOrder_1 : decode cX11_triesOrder 1 = .ok (.istore_n 2, 1) := by decide +kernel
theorem dX11_triesOrder_2 : decode cX11_triesOrder 2 = .ok (.iconst 1, 1) := by decide +kernel
theorem dX11_triesOrder_3 : decode cX11_triesOrder 3 = .ok (.istore_n 3, 1) := by decide +kernel
theorem dX11_triesOrder_4 : decode cX11_triesOrder 4 = .ok (.iconst 0, 1) := by decide +kernel
theorem dX11_triesOrder_5 : decode cX11_triesOrder 5 = .ok (.istore 4, 2) := by decide +kernel
theorem dX11_triesOrder_7 : decode cX11_triesOrder 7 = .ok (.iload 4, 2) := by decide +kernel
theorem dX11_triesOrder_9 : decode cX11_triesOrder 9 = .ok (.aload_n 0, 1) := by decide +kernel
theorem dX11_triesOrder_10 : decode cX11_triesOrder 10 = .ok (.getfield 479, 3) := by decide +kernel
theorem dX11_triesOrder_13 : decode cX11_triesOrder 13 = .ok (.if_icmp .ge 22, 3) := by decide +kernel
theorem dX11_triesOrder_16 : decode cX11_triesOrder 16 = .ok (.bipush 10, 2) := by decide +kernel
theorem dX11_triesOrder_18 : decode cX11_triesOrder 18 = .ok (.iload_n 3, 1) := by decide +kernel
theorem dX11_triesOrder_19 : decode cX11_triesOrder 19 = .ok (.imul, 1) := by decide +kernel
theorem dX11_triesOrder_20 : decode cX11_triesOrder 20 = .ok (.aload_n 0, 1) := by decide +kernel
theorem dX11_triesOrder_21 : decode cX11_triesOrder 21 = .ok (.getfield 93, 3) := by decide +kernel
theorem dX11_triesOrder_24 : decode cX11_triesOrder 24 = .ok (.iload 4, 2) := by decide +kernel
theorem dX11_triesOrder_26 : decode cX11_triesOrder 26 = .ok (.iaload, 1) := by decide +kernel
theorem dX11_triesOrder_27 : decode cX11_triesOrder 27 = .ok (.iadd, 1) := by decide +kernel
theorem dX11_triesOrder_28 : decode cX11_triesOrder 28 = .ok (.istore_n 3, 1) := by decide +kernel
theorem dX11_triesOrder_29 : decode cX11_triesOrder 29 = .ok (.iinc 4 1, 3) := by decide +kernel
theorem dX11_triesOrder_32 : decode cX11_triesOrder 32 = .ok (.goto (-25), 3) := by decide +kernel
theorem dX11_triesOrder_35 : decode cX11_triesOrder 35 = .ok (.aload_n 0, 1) := by decide +kernel
theorem dX11_triesOrder_36 : decode cX11_triesOrder 36 = .ok (.getfield 479, 3) := by decide +kernel
theorem dX11_triesOrder_39 : decode cX11_triesOrder 39 = .ok (.iconst 1, 1) := by decide +kernel
theorem dX11_triesOrder_40 : decode cX11_triesOrder 40 = .ok (.isub, 1) := by decide +kernel
theorem dX11_triesOrder_41 : decode cX11_triesOrder 41 = .ok (.istore 4, 2) := by decide +kernel
theorem dX11_triesOrder_43 : decode cX11_triesOrder 43 = .ok (.iload 4, 2) := by decide +kernel
theorem dX11_triesOrder_45 : decode cX11_triesOrder 45 = .ok (.ifCond .lt 78, 3) := by decide +kernel
theorem dX11_triesOrder_48 : decode cX11_triesOrder 48 = .ok (.aload_n 0, 1) := by decide +kernel
theorem dX11_triesOrder_49 : decode cX11_triesOrder 49 = .ok (.getfield 93, 3) := by decide +kernel
theorem dX11_triesOrder_52 : decode cX11_triesOrder 52 = .ok (.iload 4, 2) := by decide +kernel
theorem dX11_triesOrder_54 : decode cX11_triesOrder 54 = .ok (.iaload, 1) := by decide +kernel
theorem dX11_triesOrder_55 : decode cX11_triesOrder 55 = .ok (.istore 5, 2) := by decide +kernel
theorem dX11_triesOrder_57 : decode cX11_triesOrder 57 = .ok (.bipush 10, 2) := by decide +kernel
theorem dX11_triesOrder_59 : decode cX11_triesOrder 59 = .ok (.bipush 8, 2) := by decide +kernel
theorem dX11_triesOrder_61 : decode cX11_triesOrder 61 = .ok (.aload_n 0, 1) := by decide +kernel
theorem dX11_triesOrder_62 : decode cX11_triesOrder 62 = .ok (.iload 5, 2) := by decide +kernel
theorem dX11_triesOrder_64 : decode cX11_triesOrder 64 = .ok (.invokevirtual 354, 3) := by decide +kernel
theorem dX11_triesOrder_67 : decode cX11_triesOrder 67 = .ok (.imul, 1) := by decide +kernel
theorem dX11_triesOrder_68 : decode cX11_triesOrder 68 = .ok (.iadd, 1) := by decide +kernel
theorem dX11_triesOrder_69 : decode cX11_triesOrder 69 = .ok (.istore 6, 2) := by decide +kernel
theorem dX11_triesOrder_71 : decode cX11_triesOrder 71 = .ok (.iload 6, 2) := by decide +kernel
theorem dX11_triesOrder_73 : decode cX11_triesOrder 73 = .ok (.sipush 1000, 3) := by decide +kernel
theorem dX11_triesOrder_76 : decode cX11_triesOrder 76 = .ok (.imul, 1) := by decide +kernel
theorem dX11_triesOrder_77 : decode cX11_triesOrder 77 = .ok (.aload_n 0, 1) := by decide +kernel
theorem dX11_triesOrder_78 : decode cX11_triesOrder 78 = .ok (.aload_n 0, 1) := by decide +kernel
theorem dX11_triesOrder_79 : decode cX11_triesOrder 79 = .ok (.getfield 61, 3) := by decide +kernel
theorem dX11_triesOrder_82 : decode cX11_triesOrder 82 = .ok (.iload_n 1, 1) := by decide +kernel
theorem dX11_triesOrder_83 : decode cX11_triesOrder 83 = .ok (.iload 5, 2) := by decide +kernel
theorem dX11_triesOrder_85 : decode cX11_triesOrder 85 = .ok (.invokevirtual 373, 3) := by decide +kernel
theorem dX11_triesOrder_88 : decode cX11_triesOrder 88 = .ok (.imul, 1) := by decide +kernel
theorem dX11_triesOrder_89 : decode cX11_triesOrder 89 = .ok (.bipush 100, 2) := by decide +kernel
theorem dX11_triesOrder_91 : decode cX11_triesOrder 91 = .ok (.iload 6, 2) := by decide +kernel
theorem dX11_triesOrder_93 : decode cX11_triesOrder 93 = .ok (.isub, 1) := by decide +kernel
theorem dX11_triesOrder_94 : decode cX11_triesOrder 94 = .ok (.iload_n 2, 1) := by decide +kernel
theorem dX11_triesOrder_95 : decode cX11_triesOrder 95 = .ok (.sipush 1000, 3) := by decide +kernel
theorem dX11_triesOrder_98 : decode cX11_triesOrder 98 = .ok (.aload_n 0, 1) := by decide +kernel
theorem dX11_triesOrder_99 : decode cX11_triesOrder 99 = .ok (.aload_n 0, 1) := by decide +kernel
theorem dX11_triesOrder_100 : decode cX11_triesOrder 100 = .ok (.getfield 61, 3) := by decide +kernel
theorem dX11_triesOrder_103 : decode cX11_triesOrder 103 = .ok (.iload_n 1, 1) := by decide +kernel
theorem dX11_triesOrder_104 : decode cX11_triesOrder 104 = .ok (.iload 5, 2) := by decide +kernel
theorem dX11_triesOrder_106 : decode cX11_triesOrder 106 = .ok (.invokevirtual 365, 3) := by decide +kernel
theorem dX11_triesOrder_109 : decode cX11_triesOrder 109 = .ok (.imul, 1) := by decide +kernel
theorem dX11_triesOrder_110 : decode cX11_triesOrder 110 = .ok (.isub, 1) := by decide +kernel
theorem dX11_triesOrder_111 : decode cX11_triesOrder 111 = .ok (.imul, 1) := by decide +kernel
theorem dX11_triesOrder_112 : decode cX11_triesOrder 112 = .ok (.iadd, 1) := by decide +kernel
theorem dX11_triesOrder_113 : decode cX11_triesOrder 113 = .ok (.bipush 100, 2) := by decide +kernel
theorem dX11_triesOrder_115 : decode cX11_triesOrder 115 = .ok (.idiv, 1) := by decide +kernel
theorem dX11_triesOrder_116 : decode cX11_triesOrder 116 = .ok (.istore_n 2, 1) := by decide +kernel
theorem dX11_triesOrder_117 : decode cX11_triesOrder 117 = .ok (.iinc 4 (-1), 3) := by decide +kernel
theorem dX11_triesOrder_120 : decode cX11_triesOrder 120 = .ok (.goto (-77), 3) := by decide +kernel
theorem dX11_triesOrder_123 : decode cX11_triesOrder 123 = .ok (.aload_n 0, 1) := by decide +kernel
theorem dX11_triesOrder_124 : decode cX11_triesOrder 124 = .ok (.getfield 482, 3) := by decide +kernel
theorem dX11_triesOrder_127 : decode cX11_triesOrder 127 = .ok (.iconst (-1), 1) := by decide +kernel
theorem dX11_triesOrder_128 : decode cX11_triesOrder 128 = .ok (.if_icmp .eq 28, 3) := by decide +kernel
theorem dX11_triesOrder_131 : decode cX11_triesOrder 131 = .ok (.iload_n 2, 1) := by decide +kernel
theorem dX11_triesOrder_132 : decode cX11_triesOrder 132 = .ok (.aload_n 0, 1) := by decide +kernel
theorem dX11_triesOrder_133 : decode cX11_triesOrder 133 = .ok (.getfield 485, 3) := by decide +kernel
theorem dX11_triesOrder_136 : decode cX11_triesOrder 136 = .ok (.if_icmp .lt 19, 3) := by decide +kernel
theorem dX11_triesOrder_139 : decode cX11_triesOrder 139 = .ok (.iload_n 2, 1) := by decide +kernel
theorem dX11_triesOrder_140 : decode cX11_triesOrder 140 = .ok (.aload_n 0, 1) := by decide +kernel
theorem dX11_triesOrder_141 : decode cX11_triesOrder 141 = .ok (.getfield 485, 3) := by decide +kernel
theorem dX11_triesOrder_144 : decode cX11_triesOrder 144 = .ok (.if_icmp .ne 12, 3) := by decide +kernel
theorem dX11_triesOrder_147 : decode cX11_triesOrder 147 = .ok (.iload_n 3, 1) := by decide +kernel
theorem dX11_triesOrder_148 : decode cX11_triesOrder 148 = .ok (.aload_n 0, 1) := by decide +kernel
theorem dX11_triesOrder_149 : decode cX11_triesOrder 149 = .ok (.getfield 482, 3) := by decide +kernel
theorem dX11_triesOrder_152 : decode cX11_triesOrder 152 = .ok (.if_icmp .le 4, 3) := by decide +kernel
theorem dX11_triesOrder_155 : decode cX11_triesOrder 155 = .ok (.return_, 1) := by decide +kernel
theorem dX11_triesOrder_156 : decode cX11_triesOrder 156 = .ok (.aload_n 0, 1) := by decide +kernel
theorem dX11_triesOrder_157 : decode cX11_triesOrder 157 = .ok (.iload_n 2, 1) := by decide +kernel
theorem dX11_triesOrder_158 : decode cX11_triesOrder 158 = .ok (.putfield 485, 3) := by decide +kernel
theorem dX11_triesOrder_161 : decode cX11_triesOrder 161 = .ok (.aload_n 0, 1) := by decide +kernel
theorem dX11_triesOrder_162 : decode cX11_triesOrder 162 = .ok (.iload_n 3, 1) := by decide +kernel
theorem dX11_triesOrder_163 : decode cX11_triesOrder 163 = .ok (.putfield 482, 3) := by decide +kernel
theorem dX11_triesOrder_166 : decode cX11_triesOrder 166 = .ok (.return_, 1) := by decide +kernel
def f_Model_triesOrder_L7 (σ : Mem) (x1 : Int32) (y2 : Int32) (a : Int32 × Int32) : Option ((Int32 × Int32) ⊕ (Int32)) :=
  @Prod.casesOn (Int32) (Int32) (fun _ => Option ((Int32 × Int32) ⊕ (Int32))) a fun z3 z4 =>
  if (mI σ 565 47) ≤ z4 then
    some (.inr z3)
  else
    if inb z4 4 then
      some (.inl ((((10 : Int32) * z3) + (mI σ 584 z4.toNatClampNeg)), (z4 + (1 : Int32))))
    else none
def f_Model_triesOrder_L43 (x1 : Int32) (y3 : Int32) (a : Mem × Int32 × Int32) : Option ((Mem × Int32 × Int32) ⊕ (Mem × Int32)) :=
  @Prod.casesOn (Mem) (Int32 × Int32) (fun _ => Option ((Mem × Int32 × Int32) ⊕ (Mem × Int32))) a fun τ b0 =>
  @Prod.casesOn (Int32) (Int32) (fun _ => Option ((Mem × Int32 × Int32) ⊕ (Mem × Int32))) b0 fun z2 z4 =>
  if z4 < (0 : Int32) then
    some (.inr (τ, z2))
  else
    if inb z4 4 then
      (f_Model_weightOf τ (mI τ 584 z4.toNatClampNeg)).bind fun q6 =>
      (f_Model_likingOf τ 578 x1 (mI τ 584 z4.toNatClampNeg)).bind fun q7 =>
      (f_Model_dueFor q7.2 578 x1 (mI τ 584 z4.toNatClampNeg)).bind fun q8 =>
      some (.inl (q7.2, ((((((10 : Int32) + ((8 : Int32) * q6)) * (1000 : Int32)) * q7.1) + (((100 : Int32) - ((10 : Int32) + ((8 : Int32) * q6))) * (z2 - ((1000 : Int32) * q8)))) / (100 : Int32)), (z4 + (-1 : Int32))))
    else none
def f_Model_triesOrder (σ : Mem) (x1 : Int32) : Option (Mem) :=
  (loopF (f_Model_triesOrder_L7 σ x1 (0 : Int32)) FU ((1 : Int32), (0 : Int32))).bind fun w3 =>
  (loopF (f_Model_triesOrder_L43 x1 w3) FU (σ, (0 : Int32), ((mI σ 565 47) - (1 : Int32)))).bind fun q9 =>
  @Prod.casesOn (Mem) (Int32) (fun _ => Option (Mem)) q9 fun τ9 w9_2 =>
  if (mI τ9 565 49) = (-1 : Int32) then
    some (sI (sI τ9 565 48 w9_2) 565 49 w3)
  else
    if w9_2 < (mI τ9 565 48) then
      some τ9
    else
      if w9_2 = (mI τ9 565 48) then
        if w3 ≤ (mI τ9 565 49) then
          some (sI (sI τ9 565 48 w9_2) 565 49 w3)
        else
          some τ9
      else
        some (sI (sI τ9 565 48 w9_2) 565 49 w3)
set_option maxHeartbeats 4000000 in
set_option maxRecDepth 20000 in
theorem gs_Model_triesOrder_L7 (X : Cx θ p s m args c cX11_triesOrder 7 RX11) (hr : meth.sig.returnType = none) (hlk : meth.locks = false)  {σ : Mem} {x1 : Int32} {y2 : Int32} {r : Mem}  (z3 : Int32) (z4 : Int32) (x : (Int32 × Int32) ⊕ (Int32)) (h : f_Model_triesOrder_L7 σ x1 y2 (z3, z4) = some x) (hk : Sum.elim (fun a => @Prod.casesOn (Int32) (Int32) (fun _ => Prop) a fun z3 z4 => GB θ p l e 64 s m args below meth c 7 (none, r) 7 [(0, .ref (be θ + 565)), (1, .int x1), (2, .int y2), (3, .int z3), (4, .int z4)] [] σ) (fun w => GB θ p l e 64 s m args below meth c 7 (none, r) 35 [(0, .ref (be θ + 565)), (1, .int x1), (2, .int y2), (3, .int w)] [] σ) x) : GB θ p l e 64 s m args below meth c 7 (none, r) 7 [(0, .ref (be θ + 565)), (1, .int x1), (2, .int y2), (3, .int z3), (4, .int z4)] [] σ := by
  unfold f_Model_triesOrder_L7 at h
  dsimp only at h
  refine g_iload X dX11_triesOrder_7 4 rfl ?_
  refine g_aload_n X dX11_triesOrder_9 rfl 0 rfl ?_
  refine g_get X fl_RX11_479 dX11_triesOrder_10 kd_565 (v := .int (mI σ 565 47)) rfl ?_
  refine g_icmp_ge (tgt := 35) X dX11_triesOrder_13 (by decide) (fun c1 => ?_) (fun c1 => ?_)
  · replace h := (if_pos c1).symm.trans h
    have hk := inr_hk h hk
    exact g_sub (lv' := [(0, .ref (be θ + 565)), (1, .int x1), (2, .int y2), (3, .int z3)]) [0, 1, 2, 3] rfl hk
  · replace h := (if_neg c1).symm.trans h
    refine g_bipush X dX11_triesOrder_16 (v := (10 : Int32)) bp_10 ?_
    refine g_iload_n X dX11_triesOrder_18 rfl 3 rfl ?_
    refine g_imul X dX11_triesOrder_19 ?_
    refine g_aload_n X dX11_triesOrder_20 rfl 0 rfl ?_
    refine g_get X fl_RX11_93 dX11_triesOrder_21 kd_565 (v := .ref (be θ + 584)) rfl ?_
    refine g_iload X dX11_triesOrder_24 4 rfl ?_
    obtain ⟨g2, h⟩ := ite_some h
    refine g_iald X kd_584 ln_584 (inb_in g2) dX11_triesOrder_26 ?_
    refine g_iadd X dX11_triesOrder_27 ?_
    refine g_istore_n X dX11_triesOrder_28 rfl (by decide) (lv' := [(3, .int (((10 : Int32) * z3) + (mI σ 584 z4.toNatClampNeg))), (0, .ref (be θ + 565)), (1, .int x1), (2, .int y2), (4, .int z4)]) rfl ?_
    refine g_iinc X dX11_triesOrder_29 (kq := 4) rfl (congrArg (HAdd.hAdd _) ic_1) (by decide) (lv' := [(4, .int (z4 + (1 : Int32))), (3, .int (((10 : Int32) * z3) + (mI σ 584 z4.toNatClampNeg))), (0, .ref (be θ + 565)), (1, .int x1), (2, .int y2)]) rfl ?_
    refine g_goto (tgt := 7) X dX11_triesOrder_32 (by decide) ?_
    have hk := inl_hk h hk
    exact g_sub (lv' := [(0, .ref (be θ + 565)), (1, .int x1), (2, .int y2), (3, .int (((10 : Int32) * z3) + (mI σ 584 z4.toNatClampNeg))), (4, .int (z4 + (1 : Int32)))]) [2, 3, 4, 1, 0] rfl hk
set_option maxHeartbeats 4000000 in
set_option maxRecDepth 20000 in
theorem gl_Model_triesOrder_L7 (X : Cx θ p s m args c cX11_triesOrder 7 RX11) (hr : meth.sig.returnType = none) (hlk : meth.locks = false)  {σ : Mem} {x1 : Int32} {y2 : Int32} {r : Mem}  (n : Nat) (a : Int32 × Int32) (b : Int32) (h : loopF (f_Model_triesOrder_L7 σ x1 y2) n a = some b) (hk : (fun w => GB θ p l e 64 s m args below meth c 7 (none, r) 35 [(0, .ref (be θ + 565)), (1, .int x1), (2, .int y2), (3, .int w)] [] σ) b) : (fun a => @Prod.casesOn (Int32) (Int32) (fun _ => Prop) a fun z3 z4 => GB θ p l e 64 s m args below meth c 7 (none, r) 7 [(0, .ref (be θ + 565)), (1, .int x1), (2, .int y2), (3, .int z3), (4, .int z4)] [] σ) a :=
  loopF_by (P := (fun a => @Prod.casesOn (Int32) (Int32) (fun _ => Prop) a fun z3 z4 => GB θ p l e 64 s m args below meth c 7 (none, r) 7 [(0, .ref (be θ + 565)), (1, .int x1), (2, .int y2), (3, .int z3), (4, .int z4)] [] σ)) (K := (fun w => GB θ p l e 64 s m args below meth c 7 (none, r) 35 [(0, .ref (be θ + 565)), (1, .int x1), (2, .int y2), (3, .int w)] [] σ)) (fun a x h hk => by obtain ⟨z3, z4⟩ := a; exact gs_Model_triesOrder_L7 X hr hlk   z3 z4 x h hk) n a b h hk
set_option maxHeartbeats 4000000 in
set_option maxRecDepth 20000 in
theorem gs_Model_triesOrder_L43 (X : Cx θ p s m args c cX11_triesOrder 7 RX11) (hr : meth.sig.returnType = none) (hlk : meth.locks = false)  {x1 : Int32} {y3 : Int32} {r : Mem}  (τ : Mem) (z2 : Int32) (z4 : Int32) (x : (Mem × Int32 × Int32) ⊕ (Mem × Int32)) (h : f_Model_triesOrder_L43 x1 y3 (τ, z2, z4) = some x) (hk : Sum.elim (fun a => @Prod.casesOn (Mem) (Int32 × Int32) (fun _ => Prop) a fun τ b0 => @Prod.casesOn (Int32) (Int32) (fun _ => Prop) b0 fun z2 z4 => GB θ p l e 64 s m args below meth c 7 (none, r) 43 [(0, .ref (be θ + 565)), (1, .int x1), (2, .int z2), (3, .int y3), (4, .int z4)] [] τ) (fun ex => @Prod.casesOn (Mem) (Int32) (fun _ => Prop) ex fun τ w_2 => GB θ p l e 64 s m args below meth c 7 (none, r) 123 [(0, .ref (be θ + 565)), (1, .int x1), (2, .int w_2), (3, .int y3)] [] τ) x) : GB θ p l e 64 s m args below meth c 7 (none, r) 43 [(0, .ref (be θ + 565)), (1, .int x1), (2, .int z2), (3, .int y3), (4, .int z4)] [] τ := by
  unfold f_Model_triesOrder_L43 at h
  dsimp only at h
  refine g_iload X dX11_triesOrder_43 4 rfl ?_
  refine g_if_lt (tgt := 123) X dX11_triesOrder_45 (by decide) (fun c4 => ?_) (fun c4 => ?_)
  · replace h := (if_pos c4).symm.trans h
    have hk := inr_hk h hk
    exact g_sub (lv' := [(0, .ref (be θ + 565)), (1, .int x1), (2, .int z2), (3, .int y3)]) [0, 1, 2, 3] rfl hk
  · replace h := (if_neg c4).symm.trans h
    refine g_aload_n X dX11_triesOrder_48 rfl 0 rfl ?_
    refine g_get X fl_RX11_93 dX11_triesOrder_49 kd_565 (v := .ref (be θ + 584)) rfl ?_
    refine g_iload X dX11_triesOrder_52 4 rfl ?_
    obtain ⟨g5, h⟩ := ite_some h
    refine g_iald X kd_584 ln_584 (inb_in g5) dX11_triesOrder_54 ?_
    refine g_istore X dX11_triesOrder_55 (by decide) (lv' := [(5, .int (mI τ 584 z4.toNatClampNeg)), (0, .ref (be θ + 565)), (1, .int x1), (2, .int z2), (3, .int y3), (4, .int z4)]) rfl ?_
    refine g_bipush X dX11_triesOrder_57 (v := (10 : Int32)) bp_10 ?_
    refine g_bipush X dX11_triesOrder_59 (v := (8 : Int32)) bp_8 ?_
    refine g_aload_n X dX11_triesOrder_61 rfl 1 rfl ?_
    refine g_iload X dX11_triesOrder_62 0 rfl ?_
    obtain ⟨q6, hq6, h⟩ := Option.bind_eq_some_iff.mp h
    refine g_cV X (c_Model_weightOf  hq6) lk_RX11_354 my_X11_weightOf (a := 565) (ci := 11) kd_565 (by decide) rfl (As := [.int (mI τ 584 z4.toNatClampNeg)]) (rest := [.int (8 : Int32), .int (10 : Int32)]) rfl rfl (Nat.le_of_ble_eq_true rfl) ⟨(Nat.le_of_ble_eq_true rfl), (Nat.le_of_ble_eq_true rfl)⟩ ⟨(Nat.le_of_ble_eq_true rfl), (Nat.le_of_ble_eq_true rfl)⟩ dX11_triesOrder_64 (st' := [.int q6, .int (8 : Int32), .int (10 : Int32)]) (σ' := τ) rfl rfl ?_
    refine g_imul X dX11_triesOrder_67 ?_
    refine g_iadd X dX11_triesOrder_68 ?_
    refine g_istore X dX11_triesOrder_69 (by decide) (lv' := [(6, .int ((10 : Int32) + ((8 : Int32) * q6))), (5, .int (mI τ 584 z4.toNatClampNeg)), (0, .ref (be θ + 565)), (1, .int x1), (2, .int z2), (3, .int y3), (4, .int z4)]) rfl ?_
    refine g_iload X dX11_triesOrder_71 0 rfl ?_
    refine g_sipush X dX11_triesOrder_73 (v := (1000 : Int32)) sp_1000 ?_
    refine g_imul X dX11_triesOrder_76 ?_
    refine g_aload_n X dX11_triesOrder_77 rfl 2 rfl ?_
    refine g_aload_n X dX11_triesOrder_78 rfl 2 rfl ?_
    refine g_get X fl_RX11_61 dX11_triesOrder_79 kd_565 (v := .ref (be θ + 578)) rfl ?_
    refine g_iload_n X dX11_triesOrder_82 rfl 3 rfl ?_
    refine g_iload X dX11_triesOrder_83 1 rfl ?_
    obtain ⟨q7, hq7, h⟩ := Option.bind_eq_some_iff.mp h
    refine g_cV X (c_Model_likingOf kd_578 hq7) lk_RX11_373 my_X11_likingOf (a := 565) (ci := 11) kd_565 (by decide) rfl (As := [.ref (be θ + 578), .int x1, .int (mI τ 584 z4.toNatClampNeg)]) (rest := [.int (((10 : Int32) + ((8 : Int32) * q6)) * (1000 : Int32))]) rfl rfl (Nat.le_of_ble_eq_true rfl) ⟨(Nat.le_of_ble_eq_true rfl), (Nat.le_of_ble_eq_true rfl)⟩ ⟨(Nat.le_of_ble_eq_true rfl), (Nat.le_of_ble_eq_true rfl)⟩ dX11_triesOrder_85 (st' := [.int q7.1, .int (((10 : Int32) + ((8 : Int32) * q6)) * (1000 : Int32))]) (σ' := q7.2) rfl rfl ?_
    refine g_imul X dX11_triesOrder_88 ?_
    refine g_bipush X dX11_triesOrder_89 (v := (100 : Int32)) bp_100 ?_
    refine g_iload X dX11_triesOrder_91 0 rfl ?_
    refine g_isub X dX11_triesOrder_93 ?_
    refine g_iload_n X dX11_triesOrder_94 rfl 4 rfl ?_
    refine g_sipush X dX11_triesOrder_95 (v := (1000 : Int32)) sp_1000 ?_
    refine g_aload_n X dX11_triesOrder_98 rfl 2 rfl ?_
    refine g_aload_n X dX11_triesOrder_99 rfl 2 rfl ?_
    refine g_get X fl_RX11_61 dX11_triesOrder_100 kd_565 (v := .ref (be θ + 578)) rfl ?_
    refine g_iload_n X dX11_triesOrder_103 rfl 3 rfl ?_
    refine g_iload X dX11_triesOrder_104 1 rfl ?_
    obtain ⟨q8, hq8, h⟩ := Option.bind_eq_some_iff.mp h
    refine g_cV X (c_Model_dueFor kd_578 hq8) lk_RX11_365 my_X11_dueFor (a := 565) (ci := 11) kd_565 (by decide) rfl (As := [.ref (be θ + 578), .int x1, .int (mI τ 584 z4.toNatClampNeg)]) (rest := [.int (1000 : Int32), .int z2, .int ((100 : Int32) - ((10 : Int32) + ((8 : Int32) * q6))), .int ((((10 : Int32) + ((8 : Int32) * q6)) * (1000 : Int32)) * q7.1)]) rfl rfl (Nat.le_of_ble_eq_true rfl) ⟨(Nat.le_of_ble_eq_true rfl), (Nat.le_of_ble_eq_true rfl)⟩ ⟨(Nat.le_of_ble_eq_true rfl), (Nat.le_of_ble_eq_true rfl)⟩ dX11_triesOrder_106 (st' := [.int q8, .int (1000 : Int32), .int z2, .int ((100 : Int32) - ((10 : Int32) + ((8 : Int32) * q6))), .int ((((10 : Int32) + ((8 : Int32) * q6)) * (1000 : Int32)) * q7.1)]) (σ' := q7.2) rfl rfl ?_
    refine g_imul X dX11_triesOrder_109 ?_
    refine g_isub X dX11_triesOrder_110 ?_
    refine g_imul X dX11_triesOrder_111 ?_
    refine g_iadd X dX11_triesOrder_112 ?_
    refine g_bipush X dX11_triesOrder_113 (v := (100 : Int32)) bp_100 ?_
    refine g_idiv X dX11_triesOrder_115 (by decide) ?_
    refine g_istore_n X dX11_triesOrder_116 rfl (by decide) (lv' := [(2, .int ((((((10 : Int32) + ((8 : Int32) * q6)) * (1000 : Int32)) * q7.1) + (((100 : Int32) - ((10 : Int32) + ((8 : Int32) * q6))) * (z2 - ((1000 : Int32) * q8)))) / (100 : Int32))), (6, .int ((10 : Int32) + ((8 : Int32) * q6))), (5, .int (mI τ 584 z4.toNatClampNeg)), (0, .ref (be θ + 565)), (1, .int x1), (3, .int y3), (4, .int z4)]) rfl ?_
    refine g_iinc X dX11_triesOrder_117 (kq := 6) rfl (congrArg (HAdd.hAdd _) ic_m1) (by decide) (lv' := [(4, .int (z4 + (-1 : Int32))), (2, .int ((((((10 : Int32) + ((8 : Int32) * q6)) * (1000 : Int32)) * q7.1) + (((100 : Int32) - ((10 : Int32) + ((8 : Int32) * q6))) * (z2 - ((1000 : Int32) * q8)))) / (100 : Int32))), (6, .int ((10 : Int32) + ((8 : Int32) * q6))), (5, .int (mI τ 584 z4.toNatClampNeg)), (0, .ref (be θ + 565)), (1, .int x1), (3, .int y3)]) rfl ?_
    refine g_goto (tgt := 43) X dX11_triesOrder_120 (by decide) ?_
    have hk := inl_hk h hk
    exact g_sub (lv' := [(0, .ref (be θ + 565)), (1, .int x1), (2, .int ((((((10 : Int32) + ((8 : Int32) * q6)) * (1000 : Int32)) * q7.1) + (((100 : Int32) - ((10 : Int32) + ((8 : Int32) * q6))) * (z2 - ((1000 : Int32) * q8)))) / (100 : Int32))), (3, .int y3), (4, .int (z4 + (-1 : Int32)))]) [4, 5, 1, 6, 0] rfl hk
set_option maxHeartbeats 4000000 in
set_option maxRecDepth 20000 in
theorem gl_Model_triesOrder_L43 (X : Cx θ p s m args c cX11_triesOrder 7 RX11) (hr : meth.sig.returnType = none) (hlk : meth.locks = false)  {x1 : Int32} {y3 : Int32} {r : Mem}  (n : Nat) (a : Mem × Int32 × Int32) (b : Mem × Int32) (h : loopF (f_Model_triesOrder_L43 x1 y3) n a = some b) (hk : (fun ex => @Prod.casesOn (Mem) (Int32) (fun _ => Prop) ex fun τ w_2 => GB θ p l e 64 s m args below meth c 7 (none, r) 123 [(0, .ref (be θ + 565)), (1, .int x1), (2, .int w_2), (3, .int y3)] [] τ) b) : (fun a => @Prod.casesOn (Mem) (Int32 × Int32) (fun _ => Prop) a fun τ b0 => @Prod.casesOn (Int32) (Int32) (fun _ => Prop) b0 fun z2 z4 => GB θ p l e 64 s m args below meth c 7 (none, r) 43 [(0, .ref (be θ + 565)), (1, .int x1), (2, .int z2), (3, .int y3), (4, .int z4)] [] τ) a :=
  loopF_by (P := (fun a => @Prod.casesOn (Mem) (Int32 × Int32) (fun _ => Prop) a fun τ b0 => @Prod.casesOn (Int32) (Int32) (fun _ => Prop) b0 fun z2 z4 => GB θ p l e 64 s m args below meth c 7 (none, r) 43 [(0, .ref (be θ + 565)), (1, .int x1), (2, .int z2), (3, .int y3), (4, .int z4)] [] τ)) (K := (fun ex => @Prod.casesOn (Mem) (Int32) (fun _ => Prop) ex fun τ w_2 => GB θ p l e 64 s m args below meth c 7 (none, r) 123 [(0, .ref (be θ + 565)), (1, .int x1), (2, .int w_2), (3, .int y3)] [] τ)) (fun a x h hk => by obtain ⟨τ, z2, z4⟩ := a; exact gs_Model_triesOrder_L43 X hr hlk   τ z2 z4 x h hk) n a b h hk
set_option maxHeartbeats 4000000 in
set_option maxRecDepth 20000 in
theorem g_Model_triesOrder (X : Cx θ p s m args c cX11_triesOrder 7 RX11) (hr : meth.sig.returnType = none) (hlk : meth.locks = false)  {σ : Mem} {x1 : Int32} {r : Mem}  (h : f_Model_triesOrder σ x1 = some r) : GB θ p l e 64 s m args below meth c 7 (none, r) 0 [(0, .ref (be θ + 565)), (1, .int x1)] [] σ := by
  unfold f_Model_triesOrder at h
  refine g_iconst X dX11_triesOrder_0 (v := (0 : Int32)) ic_0 ?_
  refine g_istore_n X dX11_triesOrder_1 rfl (by decide) (lv' := [(2, .int (0 : Int32)), (0, .ref (be θ + 565)), (1, .int x1)]) rfl ?_
  refine g_iconst X dX11_triesOrder_2 (v := (1 : Int32)) ic_1 ?_
  refine g_istore_n X dX11_triesOrder_3 rfl (by decide) (lv' := [(3, .int (1 : Int32)), (2, .int (0 : Int32)), (0, .ref (be θ + 565)), (1, .int x1)]) rfl ?_
  refine g_iconst X dX11_triesOrder_4 (v := (0 : Int32)) ic_0 ?_
  refine g_istore X dX11_triesOrder_5 (by decide) (lv' := [(4, .int (0 : Int32)), (3, .int (1 : Int32)), (2, .int (0 : Int32)), (0, .ref (be θ + 565)), (1, .int x1)]) rfl ?_
  obtain ⟨w3, hq3, h⟩ := Option.bind_eq_some_iff.mp h
  refine g_sub (lv' := [(0, .ref (be θ + 565)), (1, .int x1), (2, .int (0 : Int32)), (3, .int (1 : Int32)), (4, .int (0 : Int32))]) [3, 4, 2, 1, 0] rfl (gl_Model_triesOrder_L7 X hr hlk    FU _ w3 hq3 ?_)
  refine g_aload_n X dX11_triesOrder_35 rfl 0 rfl ?_
  refine g_get X fl_RX11_479 dX11_triesOrder_36 kd_565 (v := .int (mI σ 565 47)) rfl ?_
  refine g_iconst X dX11_triesOrder_39 (v := (1 : Int32)) ic_1 ?_
  refine g_isub X dX11_triesOrder_40 ?_
  refine g_istore X dX11_triesOrder_41 (by decide) (lv' := [(4, .int ((mI σ 565 47) - (1 : Int32))), (0, .ref (be θ + 565)), (1, .int x1), (2, .int (0 : Int32)), (3, .int w3)]) rfl ?_
  obtain ⟨q9, hq9, h⟩ := Option.bind_eq_some_iff.mp h
  refine g_sub (lv' := [(0, .ref (be θ + 565)), (1, .int x1), (2, .int (0 : Int32)), (3, .int w3), (4, .int ((mI σ 565 47) - (1 : Int32)))]) [1, 2, 3, 4, 0] rfl (gl_Model_triesOrder_L43 X hr hlk    FU _ q9 hq9 ?_)
  obtain ⟨τ9, w9_2⟩ := q9
  dsimp only at h ⊢
  refine g_aload_n X dX11_triesOrder_123 rfl 0 rfl ?_
  refine g_get X fl_RX11_482 dX11_triesOrder_124 kd_565 (v := .int (mI τ9 565 49)) rfl ?_
  refine g_iconst X dX11_triesOrder_127 (v := (-1 : Int32)) ic_m1 ?_
  refine g_icmp_eq (tgt := 156) X dX11_triesOrder_128 (by decide) (fun c10 => ?_) (fun c10 => ?_)
  · replace h := (if_pos c10).symm.trans h
    refine g_aload_n X dX11_triesOrder_156 rfl 0 rfl ?_
    refine g_iload_n X dX11_triesOrder_157 rfl 2 rfl ?_
    refine g_putI X fl_RX11_485 dX11_triesOrder_158 kd_565 rfl rfl rfl ?_
    refine g_aload_n X dX11_triesOrder_161 rfl 0 rfl ?_
    refine g_iload_n X dX11_triesOrder_162 rfl 3 rfl ?_
    refine g_putI X fl_RX11_482 dX11_triesOrder_163 kd_565 rfl rfl rfl ?_
    exact g_vret X hr hlk dX11_triesOrder_166 (by cases h; rfl)
  · replace h := (if_neg c10).symm.trans h
    refine g_iload_n X dX11_triesOrder_131 rfl 2 rfl ?_
    refine g_aload_n X dX11_triesOrder_132 rfl 0 rfl ?_
    refine g_get X fl_RX11_485 dX11_triesOrder_133 kd_565 (v := .int (mI τ9 565 48)) rfl ?_
    refine g_icmp_lt (tgt := 155) X dX11_triesOrder_136 (by decide) (fun c11 => ?_) (fun c11 => ?_)
    · replace h := (if_pos c11).symm.trans h
      exact g_vret X hr hlk dX11_triesOrder_155 (by cases h; rfl)
    · replace h := (if_neg c11).symm.trans h
      refine g_iload_n X dX11_triesOrder_139 rfl 2 rfl ?_
      refine g_aload_n X dX11_triesOrder_140 rfl 0 rfl ?_
      refine g_get X fl_RX11_485 dX11_triesOrder_141 kd_565 (v := .int (mI τ9 565 48)) rfl ?_
      refine g_icmp_ne (tgt := 156) X dX11_triesOrder_144 (by decide) (fun c12 => ?_) (fun c12 => ?_)
      · replace h := (if_neg c12).symm.trans h
        refine g_aload_n X dX11_triesOrder_156 rfl 0 rfl ?_
        refine g_iload_n X dX11_triesOrder_157 rfl 2 rfl ?_
        refine g_putI X fl_RX11_485 dX11_triesOrder_158 kd_565 rfl rfl rfl ?_
        refine g_aload_n X dX11_triesOrder_161 rfl 0 rfl ?_
        refine g_iload_n X dX11_triesOrder_162 rfl 3 rfl ?_
        refine g_putI X fl_RX11_482 dX11_triesOrder_163 kd_565 rfl rfl rfl ?_
        exact g_vret X hr hlk dX11_triesOrder_166 (by cases h; rfl)
      · replace h := (if_pos c12).symm.trans h
        refine g_iload_n X dX11_triesOrder_147 rfl 3 rfl ?_
        refine g_aload_n X dX11_triesOrder_148 rfl 0 rfl ?_
        refine g_get X fl_RX11_482 dX11_triesOrder_149 kd_565 (v := .int (mI τ9 565 49)) rfl ?_
        refine g_icmp_le (tgt := 156) X dX11_triesOrder_152 (by decide) (fun c13 => ?_) (fun c13 => ?_)
        · replace h := (if_pos c13).symm.trans h
          refine g_aload_n X dX11_triesOrder_156 rfl 0 rfl ?_
          refine g_iload_n X dX11_triesOrder_157 rfl 2 rfl ?_
          refine g_putI X fl_RX11_485 dX11_triesOrder_158 kd_565 rfl rfl rfl ?_
          refine g_aload_n X dX11_triesOrder_161 rfl 0 rfl ?_
          refine g_iload_n X dX11_triesOrder_162 rfl 3 rfl ?_
          refine g_putI X fl_RX11_482 dX11_triesOrder_163 kd_565 rfl rfl rfl ?_
          exact g_vret X hr hlk dX11_triesOrder_166 (by cases h; rfl)
        · replace h := (if_neg c13).symm.trans h
          exact g_vret X hr hlk dX11_triesOrder_155 (by cases h; rfl)
set_option maxHeartbeats 4000000 in
set_option maxRecDepth 20000 in
theorem c_Model_triesOrder {θ : Th} {l : Launch} {σ : Mem} {x1 : Int32} {r : Mem}  (h : f_Model_triesOrder σ x1 = some r) : Cn θ l yX11_triesOrder cX11_triesOrder 7 (none) 64 0 0 [.ref (be θ + 565), .int x1] σ (none, r) :=
  Cn.of (by decide) (Nat.le_of_ble_eq_true rfl) (fun p e s m below meth c X hr hlk => g_Model_triesOrder X hr hlk  h)
theorem dX11_goOrders_0 : decode cX11_goOrders 0 = .ok (.aload_n 0, 1) := by decide +kernel
theorem dX11_goOrders_1 : decode cX11_goOrders 1 = .ok (.iload_n 1, 1) := by decide +kernel
theorem dX11_goOrders_2 : decode cX11_goOrders 2 = .ok (.invokevirtual 488, 3) := by decide +kernel
theorem dX11_goOrders_5 : decode cX11_goOrders 5 = .ok (.iload_n 2, 1) := by decide +kernel
theorem dX11_goOrders_6 : decode cX11_goOrders 6 = .ok (.ifCond .ne 4, 3) := by decide +kernel
theorem dX11_goOrders_9 : decode cX11_goOrders 9 = .ok (.return_, 1) := by decide +kernel
theorem dX11_goOrders_10 : decode cX11_goOrders 10 = .ok (.iconst 0, 1) := by decide +kernel
theorem dX11_goOrders_11 : decode cX11_goOrders 11 = .ok (.istore 4, 2) := by decide +kernel
theorem dX11_goOrders_13 : decode cX11_goOrders 13 = .ok (.iload 4, 2) := by decide +kernel
theorem dX11_goOrders_15 : decode cX11_goOrders 15 = .ok (.aload_n 0, 1) := by decide +kernel
theorem dX11_goOrders_16 : decode cX11_goOrders 16 = .ok (.getfield 307, 3) := by decide +kernel
theorem dX11_goOrders_19 : decode cX11_goOrders 19 = .ok (.if_icmp .ge 79, 3) := by decide +kernel
theorem dX11_goOrders_22 : decode cX11_goOrders 22 = .ok (.iload_n 3, 1) := by decide +kernel
theorem dX11_goOrders_23 : decode cX11_goOrders 23 = .ok (.iload 4, 2) := by decide +kernel
theorem dX11_goOrders_25 : decode cX11_goOrders 25 = .ok (.invokestatic 245, 3) := by decide +kernel
theorem dX11_goOrders_28 : decode cX11_goOrders 28 = .ok (.ifCond .ne 64, 3) := by decide +kernel
theorem dX11_goOrders_31 : decode cX11_goOrders 31 = .ok (.aload_n 0, 1) := by decide +kernel
theorem dX11_goOrders_32 : decode cX11_goOrders 32 = .ok (.aload_n 0, 1) := by decide +kernel
theorem dX11_goOrders_33 : decode cX11_goOrders 33 = .ok (.getfield 61, 3) := by decide +kernel
theorem dX11_goOrders_36 : decode cX11_goOrders 36 = .ok (.iload 4, 2) := by decide +kernel
theorem dX11_goOrders_38 : decode cX11_goOrders 38 = .ok (.invokevirtual 385, 3) := by decide +kernel
theorem dX11_goOrders_41 : decode cX11_goOrders 41 = .ok (.ifCond .ne 6, 3) := by decide +kernel
theorem dX11_goOrders_44 : decode cX11_goOrders 44 = .ok (.goto 48, 3) := by decide +kernel
theorem dX11_goOrders_47 : decode cX11_goOrders 47 = .ok (.aload_n 0, 1) := by decide +kernel
theorem dX11_goOrders_48 : decode cX11_goOrders 48 = .ok (.getfield 93, 3) := by decide +kernel
theorem dX11_goOrders_51 : decode cX11_goOrders 51 = .ok (.aload_n 0, 1) := by decide +kernel
theorem dX11_goOrders_52 : decode cX11_goOrders 52 = .ok (.getfield 479, 3) := by decide +kernel
theorem dX11_goOrders_55 : decode cX11_goOrders 55 = .ok (.iload 4, 2) := by decide +kernel
theorem dX11_goOrders_57 : decode cX11_goOrders 57 = .ok (.iastore, 1) := by decide +kernel
theorem dX11_goOrders_58 : decode cX11_goOrders 58 = .ok (.aload_n 0, 1) := by decide +kernel
theorem dX11_goOrders_59 : decode cX11_goOrders 59 = .ok (.dup, 1) := by decide +kernel
theorem dX11_goOrders_60 : decode cX11_goOrders 60 = .ok (.getfield 479, 3) := by decide +kernel
theorem dX11_goOrders_63 : decode cX11_goOrders 63 = .ok (.iconst 1, 1) := by decide +kernel
theorem dX11_goOrders_64 : decode cX11_goOrders 64 = .ok (.iadd, 1) := by decide +kernel
theorem dX11_goOrders_65 : decode cX11_goOrders 65 = .ok (.putfield 479, 3) := by decide +kernel
theorem dX11_goOrders_68 : decode cX11_goOrders 68 = .ok (.aload_n 0, 1) := by decide +kernel
theorem dX11_goOrders_69 : decode cX11_goOrders 69 = .ok (.iload_n 1, 1) := by decide +kernel
theorem dX11_goOrders_70 : decode cX11_goOrders 70 = .ok (.iload_n 2, 1) := by decide +kernel
theorem dX11_goOrders_71 : decode cX11_goOrders 71 = .ok (.iconst 1, 1) := by decide +kernel
theorem dX11_goOrders_72 : decode cX11_goOrders 72 = .ok (.isub, 1) := by decide +kernel
theorem dX11_goOrders_73 : decode cX11_goOrders 73 = .ok (.iload_n 3, 1) := by decide +kernel
theorem dX11_goOrders_74 : decode cX11_goOrders 74 = .ok (.iconst 1, 1) := by decide +kernel
theorem dX11_goOrders_75 : decode cX11_goOrders 75 = .ok (.iload 4, 2) := by decide +kernel
theorem dX11_goOrders_77 : decode cX11_goOrders 77 = .ok (.ishl, 1) := by decide +kernel
theorem dX11_goOrders_78 : decode cX11_goOrders 78 = .ok (.ior, 1) := by decide +kernel
theorem dX11_goOrders_79 : decode cX11_goOrders 79 = .ok (.invokevirtual 491, 3) := by decide +kernel
theorem dX11_goOrders_82 : decode cX11_goOrders 82 = .ok (.aload_n 0, 1) := by decide +kernel
theorem dX11_goOrders_83 : decode cX11_goOrders 83 = .ok (.dup, 1) := by decide +kernel
theorem dX11_goOrders_84 : decode cX11_goOrders 84 = .ok (.getfield 479, 3) := by decide +kernel
theorem dX11_goOrders_87 : decode cX11_goOrders 87 = .ok (.iconst 1, 1) := by decide +kernel
theorem dX11_goOrders_88 : decode cX11_goOrders 88 = .ok (.isub, 1) := by decide +kernel
theorem dX11_goOrders_89 : decode cX11_goOrders 89 = .ok (.putfield 479, 3) := by decide +kernel
theorem dX11_goOrders_92 : decode cX11_goOrders 92 = .ok (.iinc 4 1, 3) := by decide +kernel
theorem dX11_goOrders_95 : decode cX11_goOrders 95 = .ok (.goto (-82), 3) := by decide +kernel
theorem dX11_goOrders_98 : decode cX11_goOrders 98 = .ok (.return_, 1) := by decide +kernel
def f_Model_goOrders_L13 (rc : Nat → Mem → Int32 → Int32 → Int32 → Option (Mem)) (x1 : Int32) (x2 : Int32) (x3 : Int32) (a : Mem × Int32) : Option ((Mem × Int32) ⊕ (Mem)) :=
  @Prod.casesOn (Mem) (Int32) (fun _ => Option ((Mem × Int32) ⊕ (Mem))) a fun τ z4 =>
  if (mI τ 565 26) ≤ z4 then
    some (.inr τ)
  else
    (f_Model_has τ x3 z4).bind fun q4 =>
    if q4 = (0 : Int32) then
      (f_Model_isFree τ 578 z4).bind fun q6 =>
      if q6 = (0 : Int32) then
        some (.inl (τ, (z4 + (1 : Int32))))
      else
        if inb (mI τ 565 47) 4 then
          (rc 0 (sI (sI τ 584 (mI τ 565 47).toNatClampNeg z4) 565 47 ((mI (sI τ 584 (mI τ 565 47).toNatClampNeg z4) 565 47) + (1 : Int32))) x1 (x2 - (1 : Int32)) (x3 ||| ((1 : Int32) <<< (z4 &&& 31)))).bind fun q9 =>
          some (.inl ((sI q9 565 47 ((mI q9 565 47) - (1 : Int32))), (z4 + (1 : Int32))))
        else none
    else
      some (.inl (τ, (z4 + (1 : Int32))))
def f_Model_goOrders (rc : Nat → Mem → Int32 → Int32 → Int32 → Option (Mem)) (σ : Mem) (x1 : Int32) (x2 : Int32) (x3 : Int32) : Option (Mem) :=
  (f_Model_triesOrder σ x1).bind fun q1 =>
  if x2 = (0 : Int32) then
    some q1
  else
    loopF (f_Model_goOrders_L13 rc x1 x2 x3) FU (q1, (0 : Int32))
set_option maxHeartbeats 4000000 in
set_option maxRecDepth 20000 in
theorem gs_Model_goOrders_L13 (X : Cx θ p s m args c cX11_goOrders 5 RX11) (hr : meth.sig.returnType = none) (hlk : meth.locks = false) {rc : Nat → Mem → Int32 → Int32 → Int32 → Option (Mem)} {nr : Nat} (hrec0 : ∀ {σ : Mem} {x1 : Int32} {x2 : Int32} {x3 : Int32} {r : Mem}, rc 0 σ x1 x2 x3 = some r → Cn θ l yX11_goOrders cX11_goOrders 5 (none) (64 + nr) 0 0 [.ref (be θ + 565), .int x1, .int x2, .int x3] σ (none, r))  {x1 : Int32} {x2 : Int32} {x3 : Int32} {r : Mem}  (τ : Mem) (z4 : Int32) (x : (Mem × Int32) ⊕ (Mem)) (h : f_Model_goOrders_L13 rc x1 x2 x3 (τ, z4) = some x) (hk : Sum.elim (fun a => @Prod.casesOn (Mem) (Int32) (fun _ => Prop) a fun τ z4 => GB θ p l e (64 + nr + 1) s m args below meth c 5 (none, r) 13 [(0, .ref (be θ + 565)), (1, .int x1), (2, .int x2), (3, .int x3), (4, .int z4)] [] τ) (fun b => b = r) x) : GB θ p l e (64 + nr + 1) s m args below meth c 5 (none, r) 13 [(0, .ref (be θ + 565)), (1, .int x1), (2, .int x2), (3, .int x3), (4, .int z4)] [] τ := by
  unfold f_Model_goOrders_L13 at h
  dsimp only at h
  refine g_iload X dX11_goOrders_13 4 rfl ?_
  refine g_aload_n X dX11_goOrders_15 rfl 0 rfl ?_
  refine g_get X fl_RX11_307 dX11_goOrders_16 kd_565 (v := .int (mI τ 565 26)) rfl ?_
  refine g_icmp_ge (tgt := 98) X dX11_goOrders_19 (by decide) (fun c3 => ?_) (fun c3 => ?_)
  · replace h := (if_pos c3).symm.trans h
    have hk := inr_hk h hk
    have hk : τ = r := hk
    subst hk
    exact g_vret X hr hlk dX11_goOrders_98 rfl
  · replace h := (if_neg c3).symm.trans h
    refine g_iload_n X dX11_goOrders_22 rfl 3 rfl ?_
    refine g_iload X dX11_goOrders_23 4 rfl ?_
    obtain ⟨q4, hq4, h⟩ := Option.bind_eq_some_iff.mp h
    refine g_cS X (c_Model_has  hq4) lk_RX11_245 my_X11_has (As := [.int x3, .int z4]) (rest := []) rfl rfl (Nat.le_of_ble_eq_true rfl) ⟨(by show 0 + 1 ≤ 64 + nr + 1; omega), (by show 8 + (2 + 11) + 40 * 0 ≤ 40 * (64 + nr + 1); omega)⟩ ⟨(Nat.le_of_ble_eq_true rfl), (Nat.le_of_ble_eq_true rfl)⟩ dX11_goOrders_25 (st' := [.int q4]) (σ' := τ) rfl rfl ?_
    refine g_if_ne (tgt := 92) X dX11_goOrders_28 (by decide) (fun c5 => ?_) (fun c5 => ?_)
    · replace h := (if_neg c5).symm.trans h
      refine g_iinc X dX11_goOrders_92 (kq := 4) rfl (congrArg (HAdd.hAdd _) ic_1) (by decide) (lv' := [(4, .int (z4 + (1 : Int32))), (0, .ref (be θ + 565)), (1, .int x1), (2, .int x2), (3, .int x3)]) rfl ?_
      refine g_goto (tgt := 13) X dX11_goOrders_95 (by decide) ?_
      have hk := inl_hk h hk
      exact g_sub (lv' := [(0, .ref (be θ + 565)), (1, .int x1), (2, .int x2), (3, .int x3), (4, .int (z4 + (1 : Int32)))]) [1, 2, 3, 4, 0] rfl hk
    · replace h := (if_pos c5).symm.trans h
      refine g_aload_n X dX11_goOrders_31 rfl 0 rfl ?_
      refine g_aload_n X dX11_goOrders_32 rfl 0 rfl ?_
      refine g_get X fl_RX11_61 dX11_goOrders_33 kd_565 (v := .ref (be θ + 578)) rfl ?_
      refine g_iload X dX11_goOrders_36 4 rfl ?_
      obtain ⟨q6, hq6, h⟩ := Option.bind_eq_some_iff.mp h
      refine g_cV X (c_Model_isFree kd_578 hq6) lk_RX11_385 my_X11_isFree (a := 565) (ci := 11) kd_565 (by decide) rfl (As := [.ref (be θ + 578), .int z4]) (rest := []) rfl rfl (Nat.le_of_ble_eq_true rfl) ⟨(by show 1 + 1 ≤ 64 + nr + 1; omega), (by show 8 + (3 + 11) + 40 * 1 ≤ 40 * (64 + nr + 1); omega)⟩ ⟨(Nat.le_of_ble_eq_true rfl), (Nat.le_of_ble_eq_true rfl)⟩ dX11_goOrders_38 (st' := [.int q6]) (σ' := τ) rfl rfl ?_
      refine g_if_ne (tgt := 47) X dX11_goOrders_41 (by decide) (fun c7 => ?_) (fun c7 => ?_)
      · replace h := (if_neg c7).symm.trans h
        refine g_aload_n X dX11_goOrders_47 rfl 0 rfl ?_
        refine g_get X fl_RX11_93 dX11_goOrders_48 kd_565 (v := .ref (be θ + 584)) rfl ?_
        refine g_aload_n X dX11_goOrders_51 rfl 0 rfl ?_
        refine g_get X fl_RX11_479 dX11_goOrders_52 kd_565 (v := .int (mI τ 565 47)) rfl ?_
        refine g_iload X dX11_goOrders_55 4 rfl ?_
        obtain ⟨g8, h⟩ := ite_some h
        refine g_iast X kd_584 ln_584 (inb_in g8) dX11_goOrders_57 ?_
        refine g_aload_n X dX11_goOrders_58 rfl 0 rfl ?_
        refine g_dup X dX11_goOrders_59 rfl ?_
        refine g_get X fl_RX11_479 dX11_goOrders_60 kd_565 (v := .int (mI (sI τ 584 (mI τ 565 47).toNatClampNeg z4) 565 47)) rfl ?_
        refine g_iconst X dX11_goOrders_63 (v := (1 : Int32)) ic_1 ?_
        refine g_iadd X dX11_goOrders_64 ?_
        refine g_putI X fl_RX11_479 dX11_goOrders_65 kd_565 rfl rfl rfl ?_
        refine g_aload_n X dX11_goOrders_68 rfl 0 rfl ?_
        refine g_iload_n X dX11_goOrders_69 rfl 1 rfl ?_
        refine g_iload_n X dX11_goOrders_70 rfl 2 rfl ?_
        refine g_iconst X dX11_goOrders_71 (v := (1 : Int32)) ic_1 ?_
        refine g_isub X dX11_goOrders_72 ?_
        refine g_iload_n X dX11_goOrders_73 rfl 3 rfl ?_
        refine g_iconst X dX11_goOrders_74 (v := (1 : Int32)) ic_1 ?_
        refine g_iload X dX11_goOrders_75 4 rfl ?_
        refine g_ishl X dX11_goOrders_77 ?_
        refine g_ior X dX11_goOrders_78 ?_
        obtain ⟨q9, hq9, h⟩ := Option.bind_eq_some_iff.mp h
        refine g_cV X (hrec0  hq9) lk_RX11_491 my_X11_goOrders (a := 565) (ci := 11) kd_565 (by decide) rfl (As := [.int x1, .int (x2 - (1 : Int32)), .int (x3 ||| ((1 : Int32) <<< (z4 &&& 31)))]) (rest := []) rfl rfl (Nat.le_of_ble_eq_true rfl) ⟨Nat.le_refl _, (by show 8 + (5 + 11) + 40 * (64 + nr) ≤ 40 * (64 + nr + 1); omega)⟩ ⟨(Nat.le_of_ble_eq_true rfl), (Nat.le_of_ble_eq_true rfl)⟩ dX11_goOrders_79 (st' := []) (σ' := q9) rfl rfl ?_
        refine g_aload_n X dX11_goOrders_82 rfl 0 rfl ?_
        refine g_dup X dX11_goOrders_83 rfl ?_
        refine g_get X fl_RX11_479 dX11_goOrders_84 kd_565 (v := .int (mI q9 565 47)) rfl ?_
        refine g_iconst X dX11_goOrders_87 (v := (1 : Int32)) ic_1 ?_
        refine g_isub X dX11_goOrders_88 ?_
        refine g_putI X fl_RX11_479 dX11_goOrders_89 kd_565 rfl rfl rfl ?_
        refine g_iinc X dX11_goOrders_92 (kq := 4) rfl (congrArg (HAdd.hAdd _) ic_1) (by decide) (lv' := [(4, .int (z4 + (1 : Int32))), (0, .ref (be θ + 565)), (1, .int x1), (2, .int x2), (3, .int x3)]) rfl ?_
        refine g_goto (tgt := 13) X dX11_goOrders_95 (by decide) ?_
        have hk := inl_hk h hk
        exact g_sub (lv' := [(0, .ref (be θ + 565)), (1, .int x1), (2, .int x2), (3, .int x3), (4, .int (z4 + (1 : Int32)))]) [1, 2, 3, 4, 0] rfl hk
      · replace h := (if_pos c7).symm.trans h
        refine g_goto (tgt := 92) X dX11_goOrders_44 (by decide) ?_
        refine g_iinc X dX11_goOrders_92 (kq := 4) rfl (congrArg (HAdd.hAdd _) ic_1) (by decide) (lv' := [(4, .int (z4 + (1 : Int32))), (0, .ref (be θ + 565)), (1, .int x1), (2, .int x2), (3, .int x3)]) rfl ?_
        refine g_goto (tgt := 13) X dX11_goOrders_95 (by decide) ?_
        have hk := inl_hk h hk
        exact g_sub (lv' := [(0, .ref (be θ + 565)), (1, .int x1), (2, .int x2), (3, .int x3), (4, .int (z4 + (1 : Int32)))]) [1, 2, 3, 4, 0] rfl hk
set_option maxHeartbeats 4000000 in
set_option maxRecDepth 20000 in
theorem gl_Model_goOrders_L13 (X : Cx θ p s m args c cX11_goOrders 5 RX11) (hr : meth.sig.returnType = none) (hlk : meth.locks = false) {rc : Nat → Mem → Int32 → Int32 → Int32 → Option (Mem)} {nr : Nat} (hrec0 : ∀ {σ : Mem} {x1 : Int32} {x2 : Int32} {x3 : Int32} {r : Mem}, rc 0 σ x1 x2 x3 = some r → Cn θ l yX11_goOrders cX11_goOrders 5 (none) (64 + nr) 0 0 [.ref (be θ + 565), .int x1, .int x2, .int x3] σ (none, r))  {x1 : Int32} {x2 : Int32} {x3 : Int32} {r : Mem}  (n : Nat) (a : Mem × Int32) (b : Mem) (h : loopF (f_Model_goOrders_L13 rc x1 x2 x3) n a = some b) (hk : (fun b => b = r) b) : (fun a => @Prod.casesOn (Mem) (Int32) (fun _ => Prop) a fun τ z4 => GB θ p l e (64 + nr + 1) s m args below meth c 5 (none, r) 13 [(0, .ref (be θ + 565)), (1, .int x1), (2, .int x2), (3, .int x3), (4, .int z4)] [] τ) a :=
  loopF_by (P := (fun a => @Prod.casesOn (Mem) (Int32) (fun _ => Prop) a fun τ z4 => GB θ p l e (64 + nr + 1) s m args below meth c 5 (none, r) 13 [(0, .ref (be θ + 565)), (1, .int x1), (2, .int x2), (3, .int x3), (4, .int z4)] [] τ)) (K := (fun b => b = r)) (fun a x h hk => by obtain ⟨τ, z4⟩ := a; exact gs_Model_goOrders_L13 X hr hlk hrec0  τ z4 x h hk) n a b h hk
set_option maxHeartbeats 4000000 in
set_option maxRecDepth 20000 in
theorem g_Model_goOrders (X : Cx θ p s m args c cX11_goOrders 5 RX11) (hr : meth.sig.returnType = none) (hlk : meth.locks = false) {rc : Nat → Mem → Int32 → Int32 → Int32 → Option (Mem)} {nr : Nat} (hrec0 : ∀ {σ : Mem} {x1 : Int32} {x2 : Int32} {x3 : Int32} {r : Mem}, rc 0 σ x1 x2 x3 = some r → Cn θ l yX11_goOrders cX11_goOrders 5 (none) (64 + nr) 0 0 [.ref (be θ + 565), .int x1, .int x2, .int x3] σ (none, r))  {σ : Mem} {x1 : Int32} {x2 : Int32} {x3 : Int32} {r : Mem}  (h : f_Model_goOrders rc σ x1 x2 x3 = some r) : GB θ p l e (64 + nr + 1) s m args below meth c 5 (none, r) 0 [(0, .ref (be θ + 565)), (1, .int x1), (2, .int x2), (3, .int x3)] [] σ := by
  unfold f_Model_goOrders at h
  refine g_aload_n X dX11_goOrders_0 rfl 0 rfl ?_
  refine g_iload_n X dX11_goOrders_1 rfl 1 rfl ?_
  obtain ⟨q1, hq1, h⟩ := Option.bind_eq_some_iff.mp h
  refine g_cV X (c_Model_triesOrder  hq1) lk_RX11_488 my_X11_triesOrder (a := 565) (ci := 11) kd_565 (by decide) rfl (As := [.int x1]) (rest := []) rfl rfl (Nat.le_of_ble_eq_true rfl) ⟨(by show 64 + 1 ≤ 64 + nr + 1; omega), (by show 8 + (7 + 11) + 40 * 64 ≤ 40 * (64 + nr + 1); omega)⟩ ⟨(Nat.le_of_ble_eq_true rfl), (Nat.le_of_ble_eq_true rfl)⟩ dX11_goOrders_2 (st' := []) (σ' := q1) rfl rfl ?_
  refine g_iload_n X dX11_goOrders_5 rfl 2 rfl ?_
  refine g_if_ne (tgt := 10) X dX11_goOrders_6 (by decide) (fun c2 => ?_) (fun c2 => ?_)
  · replace h := (if_neg c2).symm.trans h
    refine g_iconst X dX11_goOrders_10 (v := (0 : Int32)) ic_0 ?_
    refine g_istore X dX11_goOrders_11 (by decide) (lv' := [(4, .int (0 : Int32)), (0, .ref (be θ + 565)), (1, .int x1), (2, .int x2), (3, .int x3)]) rfl ?_
    exact g_sub (lv' := [(0, .ref (be θ + 565)), (1, .int x1), (2, .int x2), (3, .int x3), (4, .int (0 : Int32))]) [1, 2, 3, 4, 0] rfl (gl_Model_goOrders_L13 X hr hlk hrec0   FU _ _ h rfl)
  · replace h := (if_pos c2).symm.trans h
    exact g_vret X hr hlk dX11_goOrders_9 (by cases h; rfl)
def f_GO : Nat → Nat → Mem → Int32 → Int32 → Int32 → Option (Mem)
  | 0 => fun _ _ _ _ _ => none
  | n + 1 => fun no σ z0 z1 z2 => f_Model_goOrders (f_GO n) σ z0 z1 z2
set_option maxHeartbeats 4000000 in
set_option maxRecDepth 100000 in
theorem a_GO {θ : Th} {l : Launch} : ∀ n : Nat, (∀ {σ : Mem} {x1 : Int32} {x2 : Int32} {x3 : Int32} {r : Mem}, f_GO n 0 σ x1 x2 x3 = some r → Cn θ l yX11_goOrders cX11_goOrders 5 (none) (64 + n) 0 0 [.ref (be θ + 565), .int x1, .int x2, .int x3] σ (none, r)) := by
  intro n
  induction n with
  | zero =>
    · intro σ x1 x2 x3 r  h
      cases h
  | succ n ih =>
    have i0 := @ih
    · intro σ x1 x2 x3 r  h
      exact Cn.of (by decide) (Nat.le_of_ble_eq_true rfl) (fun p e s m below meth c X hr hlk => g_Model_goOrders (nr := n) (rc := f_GO n) X hr hlk i0  h)
set_option maxRecDepth 100000 in
theorem c_GO_0 {θ : Th} {l : Launch} : ∀ {σ : Mem} {x1 : Int32} {x2 : Int32} {x3 : Int32} {r : Mem}, f_GO 8 0 σ x1 x2 x3 = some r → Cn θ l yX11_goOrders cX11_goOrders 5 (none) 72 0 0 [.ref (be θ + 565), .int x1, .int x2, .int x3] σ (none, r) := (a_GO 8)
theorem dX11_seek_0 : decode cX11_seek 0 = .ok (.aload_n 0, 1) := by decide +kernel
theorem dX11_seek_1 : decode cX11_seek 1 = .ok (.iconst 0, 1) := by decide +kernel
theorem dX11_seek_2 : decode cX11_seek 2 = .ok (.putfield 112, 3) := by decide +kernel
theorem dX11_seek_5 : decode cX11_seek 5 = .ok (.aload_n 0, 1) := by decide +kernel
theorem dX11_seek_6 : decode cX11_seek 6 = .ok (.iload_n 1, 1) := by decide +kernel
theorem dX11_seek_7 : decode cX11_seek 7 = .ok (.invokevirtual 412, 3) := by decide +kernel
theorem dX11_seek_10 : decode cX11_seek 10 = .ok (.ifCond .eq 38, 3) := by decide +kernel
theorem dX11_seek_13 : decode cX11_seek 13 = .ok (.aload_n 0, 1) := by decide +kernel
theorem dX11_seek_14 : decode cX11_seek 14 = .ok (.aload_n 0, 1) := by decide +kernel
theorem dX11_seek_15 : decode cX11_seek 15 = .ok (.getfield 61, 3) := by decide +kernel
theorem dX11_seek_18 : decode cX11_seek 18 = .ok (.iload_n 1, 1) := by decide +kernel
theorem dX11_seek_19 : decode cX11_seek 19 = .ok (.invokevirtual 361, 3) := by decide +kernel
theorem dX11_seek_22 : decode cX11_seek 22 = .ok (.iconst (-1), 1) := by decide +kernel
theorem dX11_seek_23 : decode cX11_seek 23 = .ok (.if_icmp .ne 25, 3) := by decide +kernel
theorem dX11_seek_26 : decode cX11_seek 26 = .ok (.iload_n 2, 1) := by decide +kernel
theorem dX11_seek_27 : decode cX11_seek 27 = .ok (.i2l, 1) := by decide +kernel
theorem dX11_seek_28 : decode cX11_seek 28 = .ok (.lconst 1, 1) := by decide +kernel
theorem dX11_seek_29 : decode cX11_seek 29 = .ok (.ldc2_w 341, 3) := by decide +kernel
theorem dX11_seek_32 : decode cX11_seek 32 = .ok (.invokestatic 233, 3) := by decide +kernel
theorem dX11_seek_35 : decode cX11_seek 35 = .ok (.ifCond .eq 13, 3) := by decide +kernel
theorem dX11_seek_38 : decode cX11_seek 38 = .ok (.iload_n 3, 1) := by decide +kernel
theorem dX11_seek_39 : decode cX11_seek 39 = .ok (.i2l, 1) := by decide +kernel
theorem dX11_seek_40 : decode cX11_seek 40 = .ok (.lconst 0, 1) := by decide +kernel
theorem dX11_seek_41 : decode cX11_seek 41 = .ok (.lconst 1, 1) := by decide +kernel
theorem dX11_seek_42 : decode cX11_seek 42 = .ok (.invokestatic 233, 3) := by decide +kernel
theorem dX11_seek_45 : decode cX11_seek 45 = .ok (.ifCond .ne 5, 3) := by decide +kernel
theorem dX11_seek_48 : decode cX11_seek 48 = .ok (.iconst (-1), 1) := by decide +kernel
theorem dX11_seek_49 : decode cX11_seek 49 = .ok (.ireturn, 1) := by decide +kernel
theorem dX11_seek_50 : decode cX11_seek 50 = .ok (.aload_n 0, 1) := by decide +kernel
theorem dX11_seek_51 : decode cX11_seek 51 = .ok (.iconst 0, 1) := by decide +kernel
theorem dX11_seek_52 : decode cX11_seek 52 = .ok (.putfield 479, 3) := by decide +kernel
theorem dX11_seek_55 : decode cX11_seek 55 = .ok (.aload_n 0, 1) := by decide +kernel
theorem dX11_seek_56 : decode cX11_seek 56 = .ok (.iconst (-1), 1) := by decide +kernel
theorem dX11_seek_57 : decode cX11_seek 57 = .ok (.putfield 482, 3) := by decide +kernel
theorem dX11_seek_60 : decode cX11_seek 60 = .ok (.aload_n 0, 1) := by decide +kernel
theorem dX11_seek_61 : decode cX11_seek 61 = .ok (.iconst 0, 1) := by decide +kernel
theorem dX11_seek_62 : decode cX11_seek 62 = .ok (.putfield 485, 3) := by decide +kernel
theorem dX11_seek_65 : decode cX11_seek 65 = .ok (.aload_n 0, 1) := by decide +kernel
theorem dX11_seek_66 : decode cX11_seek 66 = .ok (.iload_n 1, 1) := by decide +kernel
theorem dX11_seek_67 : decode cX11_seek 67 = .ok (.iload_n 2, 1) := by decide +kernel
theorem dX11_seek_68 : decode cX11_seek 68 = .ok (.iconst 0, 1) := by decide +kernel
theorem dX11_seek_69 : decode cX11_seek 69 = .ok (.invokevirtual 491, 3) := by decide +kernel
theorem dX11_seek_72 : decode cX11_seek 72 = .ok (.iload_n 3, 1) := by decide +kernel
theorem dX11_seek_73 : decode cX11_seek 73 = .ok (.ifCond .ne 10, 3) := by decide +kernel
theorem dX11_seek_76 : decode cX11_seek 76 = .ok (.aload_n 0, 1) := by decide +kernel
theorem dX11_seek_77 : decode cX11_seek 77 = .ok (.getfield 485, 3) := by decide +kernel
theorem dX11_seek_80 : decode cX11_seek 80 = .ok (.goto 7, 3) := by decide +kernel
theorem dX11_seek_83 : decode cX11_seek 83 = .ok (.aload_n 0, 1) := by decide +kernel
theorem dX11_seek_84 : decode cX11_seek 84 = .ok (.getfield 482, 3) := by decide +kernel
theorem dX11_seek_87 : decode cX11_seek 87 = .ok (.ireturn, 1) := by decide +kernel
def f_Model_seek (σ : Mem) (x1 : Int32) (x2 : Int32) (x3 : Int32) : Option (Int32 × Mem) :=
  (f_Model_isBuyer (sI σ 565 0 (0 : Int32)) x1).bind fun q1 =>
  if q1 = (0 : Int32) then
    some ((-1 : Int32), (sI σ 565 0 (0 : Int32)))
  else
    (f_Model_holds (sI σ 565 0 (0 : Int32)) 578 x1).bind fun q3 =>
    if q3 = (-1 : Int32) then
      (f_Model_isIn (sI σ 565 0 (0 : Int32)) ((x2).toInt64) (1 : Int64) (4 : Int64)).bind fun q5 =>
      if q5 = (0 : Int32) then
        some ((-1 : Int32), (sI σ 565 0 (0 : Int32)))
      else
        (f_Model_isIn (sI σ 565 0 (0 : Int32)) ((x3).toInt64) (0 : Int64) (1 : Int64)).bind fun q7 =>
        if q7 = (0 : Int32) then
          some ((-1 : Int32), (sI σ 565 0 (0 : Int32)))
        else
          (f_GO 8 0 (sI (sI (sI (sI σ 565 0 (0 : Int32)) 565 47 (0 : Int32)) 565 49 (-1 : Int32)) 565 48 (0 : Int32)) x1 x2 (0 : Int32)).bind fun q9 =>
          if x3 = (0 : Int32) then
            some ((mI q9 565 48), q9)
          else
            some ((mI q9 565 49), q9)
    else
      some ((-1 : Int32), (sI σ 565 0 (0 : Int32)))
set_option maxHeartbeats 4000000 in
set_option maxRecDepth 20000 in
theorem g_Model_seek (X : Cx θ p s m args c cX11_seek 4 RX11) (hr : meth.sig.returnType = some .int) (hlk : meth.locks = false)  {σ : Mem} {x1 : Int32} {x2 : Int32} {x3 : Int32} {r : Int32 × Mem}  (h : f_Model_seek σ x1 x2 x3 = some r) : GB θ p l e 73 s m args below meth c 4 (some (.int r.1), r.2) 0 [(0, .ref (be θ + 565)), (1, .int x1), (2, .int x2), (3, .int x3)] [] σ := by
  unfold f_Model_seek at h
  refine g_aload_n X dX11_seek_0 rfl 0 rfl ?_
  refine g_iconst X dX11_seek_1 (v := (0 : Int32)) ic_0 ?_
  refine g_putI X fl_RX11_112 dX11_seek_2 kd_565 rfl rfl rfl ?_
  refine g_aload_n X dX11_seek_5 rfl 0 rfl ?_
  refine g_iload_n X dX11_seek_6 rfl 1 rfl ?_
  obtain ⟨q1, hq1, h⟩ := Option.bind_eq_some_iff.mp h
  refine g_cV X (c_Model_isBuyer  hq1) lk_RX11_412 my_X11_isBuyer (a := 565) (ci := 11) kd_565 (by decide) rfl (As := [.int x1]) (rest := []) rfl rfl (Nat.le_of_ble_eq_true rfl) ⟨(Nat.le_of_ble_eq_true rfl), (Nat.le_of_ble_eq_true rfl)⟩ ⟨(Nat.le_of_ble_eq_true rfl), (Nat.le_of_ble_eq_true rfl)⟩ dX11_seek_7 (st' := [.int q1]) (σ' := (sI σ 565 0 (0 : Int32))) rfl rfl ?_
  refine g_if_eq (tgt := 48) X dX11_seek_10 (by decide) (fun c2 => ?_) (fun c2 => ?_)
  · replace h := (if_pos c2).symm.trans h
    refine g_iconst X dX11_seek_48 (v := (-1 : Int32)) ic_m1 ?_
    exact g_iret X hr hlk dX11_seek_49 (by cases h; rfl)
  · replace h := (if_neg c2).symm.trans h
    refine g_aload_n X dX11_seek_13 rfl 0 rfl ?_
    refine g_aload_n X dX11_seek_14 rfl 0 rfl ?_
    refine g_get X fl_RX11_61 dX11_seek_15 kd_565 (v := .ref (be θ + 578)) rfl ?_
    refine g_iload_n X dX11_seek_18 rfl 1 rfl ?_
    obtain ⟨q3, hq3, h⟩ := Option.bind_eq_some_iff.mp h
    refine g_cV X (c_Model_holds kd_578 hq3) lk_RX11_361 my_X11_holds (a := 565) (ci := 11) kd_565 (by decide) rfl (As := [.ref (be θ + 578), .int x1]) (rest := []) rfl rfl (Nat.le_of_ble_eq_true rfl) ⟨(Nat.le_of_ble_eq_true rfl), (Nat.le_of_ble_eq_true rfl)⟩ ⟨(Nat.le_of_ble_eq_true rfl), (Nat.le_of_ble_eq_true rfl)⟩ dX11_seek_19 (st' := [.int q3]) (σ' := (sI σ 565 0 (0 : Int32))) rfl rfl ?_
    refine g_iconst X dX11_seek_22 (v := (-1 : Int32)) ic_m1 ?_
    refine g_icmp_ne (tgt := 48) X dX11_seek_23 (by decide) (fun c4 => ?_) (fun c4 => ?_)
    · replace h := (if_neg c4).symm.trans h
      refine g_iconst X dX11_seek_48 (v := (-1 : Int32)) ic_m1 ?_
      exact g_iret X hr hlk dX11_seek_49 (by cases h; rfl)
    · replace h := (if_pos c4).symm.trans h
      refine g_iload_n X dX11_seek_26 rfl 2 rfl ?_
      refine g_i2l X dX11_seek_27 (v := ((x2).toInt64)) rfl ?_
      refine g_lconst X dX11_seek_28 (v := (1 : Int64)) rfl ?_
      refine g_ldc2 X cst_RX11_341 dX11_seek_29 ?_
      obtain ⟨q5, hq5, h⟩ := Option.bind_eq_some_iff.mp h
      refine g_cS X (c_Model_isIn  hq5) lk_RX11_233 my_X11_isIn (As := [.long ((x2).toInt64), .long (1 : Int64), .long (4 : Int64)]) (rest := []) rfl rfl (Nat.le_of_ble_eq_true rfl) ⟨(Nat.le_of_ble_eq_true rfl), (Nat.le_of_ble_eq_true rfl)⟩ ⟨(Nat.le_of_ble_eq_true rfl), (Nat.le_of_ble_eq_true rfl)⟩ dX11_seek_32 (st' := [.int q5]) (σ' := (sI σ 565 0 (0 : Int32))) rfl rfl ?_
      refine g_if_eq (tgt := 48) X dX11_seek_35 (by decide) (fun c6 => ?_) (fun c6 => ?_)
      · replace h := (if_pos c6).symm.trans h
        refine g_iconst X dX11_seek_48 (v := (-1 : Int32)) ic_m1 ?_
        exact g_iret X hr hlk dX11_seek_49 (by cases h; rfl)
      · replace h := (if_neg c6).symm.trans h
        refine g_iload_n X dX11_seek_38 rfl 3 rfl ?_
        refine g_i2l X dX11_seek_39 (v := ((x3).toInt64)) rfl ?_
        refine g_lconst X dX11_seek_40 (v := (0 : Int64)) rfl ?_
        refine g_lconst X dX11_seek_41 (v := (1 : Int64)) rfl ?_
        obtain ⟨q7, hq7, h⟩ := Option.bind_eq_some_iff.mp h
        refine g_cS X (c_Model_isIn  hq7) lk_RX11_233 my_X11_isIn (As := [.long ((x3).toInt64), .long (0 : Int64), .long (1 : Int64)]) (rest := []) rfl rfl (Nat.le_of_ble_eq_true rfl) ⟨(Nat.le_of_ble_eq_true rfl), (Nat.le_of_ble_eq_true rfl)⟩ ⟨(Nat.le_of_ble_eq_true rfl), (Nat.le_of_ble_eq_true rfl)⟩ dX11_seek_42 (st' := [.int q7]) (σ' := (sI σ 565 0 (0 : Int32))) rfl rfl ?_
        refine g_if_ne (tgt := 50) X dX11_seek_45 (by decide) (fun c8 => ?_) (fun c8 => ?_)
        · replace h := (if_neg c8).symm.trans h
          refine g_aload_n X dX11_seek_50 rfl 0 rfl ?_
          refine g_iconst X dX11_seek_51 (v := (0 : Int32)) ic_0 ?_
          refine g_putI X fl_RX11_479 dX11_seek_52 kd_565 rfl rfl rfl ?_
          refine g_aload_n X dX11_seek_55 rfl 0 rfl ?_
          refine g_iconst X dX11_seek_56 (v := (-1 : Int32)) ic_m1 ?_
          refine g_putI X fl_RX11_482 dX11_seek_57 kd_565 rfl rfl rfl ?_
          refine g_aload_n X dX11_seek_60 rfl 0 rfl ?_
          refine g_iconst X dX11_seek_61 (v := (0 : Int32)) ic_0 ?_
          refine g_putI X fl_RX11_485 dX11_seek_62 kd_565 rfl rfl rfl ?_
          refine g_aload_n X dX11_seek_65 rfl 0 rfl ?_
          refine g_iload_n X dX11_seek_66 rfl 1 rfl ?_
          refine g_iload_n X dX11_seek_67 rfl 2 rfl ?_
          refine g_iconst X dX11_seek_68 (v := (0 : Int32)) ic_0 ?_
          obtain ⟨q9, hq9, h⟩ := Option.bind_eq_some_iff.mp h
          refine g_cV X (c_GO_0  hq9) lk_RX11_491 my_X11_goOrders (a := 565) (ci := 11) kd_565 (by decide) rfl (As := [.int x1, .int x2, .int (0 : Int32)]) (rest := []) rfl rfl (Nat.le_of_ble_eq_true rfl) ⟨(Nat.le_of_ble_eq_true rfl), (Nat.le_of_ble_eq_true rfl)⟩ ⟨(Nat.le_of_ble_eq_true rfl), (Nat.le_of_ble_eq_true rfl)⟩ dX11_seek_69 (st' := []) (σ' := q9) rfl rfl ?_
          refine g_iload_n X dX11_seek_72 rfl 3 rfl ?_
          refine g_if_ne (tgt := 83) X dX11_seek_73 (by decide) (fun c10 => ?_) (fun c10 => ?_)
          · replace h := (if_neg c10).symm.trans h
            refine g_aload_n X dX11_seek_83 rfl 0 rfl ?_
            refine g_get X fl_RX11_482 dX11_seek_84 kd_565 (v := .int (mI q9 565 49)) rfl ?_
            exact g_iret X hr hlk dX11_seek_87 (by cases h; rfl)
          · replace h := (if_pos c10).symm.trans h
            refine g_aload_n X dX11_seek_76 rfl 0 rfl ?_
            refine g_get X fl_RX11_485 dX11_seek_77 kd_565 (v := .int (mI q9 565 48)) rfl ?_
            refine g_goto (tgt := 87) X dX11_seek_80 (by decide) ?_
            exact g_iret X hr hlk dX11_seek_87 (by cases h; rfl)
        · replace h := (if_pos c8).symm.trans h
          refine g_iconst X dX11_seek_48 (v := (-1 : Int32)) ic_m1 ?_
          exact g_iret X hr hlk dX11_seek_49 (by cases h; rfl)
set_option maxHeartbeats 4000000 in
set_option maxRecDepth 20000 in
theorem c_Model_seek {θ : Th} {l : Launch} {σ : Mem} {x1 : Int32} {x2 : Int32} {x3 : Int32} {r : Int32 × Mem}  (h : f_Model_seek σ x1 x2 x3 = some r) : Cn θ l yX11_seek cX11_seek 4 (some .int) 73 0 0 [.ref (be θ + 565), .int x1, .int x2, .int x3] σ (some (.int r.1), r.2) :=
  Cn.of (by decide) (Nat.le_of_ble_eq_true rfl) (fun p e s m below meth c X hr hlk => g_Model_seek X hr hlk  h)
theorem dX11_raises_0 : decode cX11_raises 0 = .ok (.aload_n 0, 1) := by decide +kernel
theorem dX11_raises_1 : decode cX11_raises 1 = .ok (.iconst 0, 1) := by decide +kernel
theorem dX11_raises_2 : decode cX11_raises 2 = .ok (.putfield 112, 3) := by decide +kernel
theorem dX11_raises_5 : decode cX11_raises 5 = .ok (.aload_n 0, 1) := by decide +kernel
theorem dX11_raises_6 : decode cX11_raises 6 = .ok (.getfield 310, 3) := by decide +kernel
theorem dX11_raises_9 : decode cX11_raises 9 = .ok (.ifCond .eq 25, 3) := by decide +kernel
theorem dX11_raises_12 : decode cX11_raises 12 = .ok (.iload_n 1, 1) := by decide +kernel
theorem dX11_raises_13 : decode cX11_raises 13 = .ok (.i2l, 1) := by decide +kernel
theorem dX11_raises_14 : decode cX11_raises 14 = .ok (.lconst 1, 1) := by decide +kernel
theorem dX11_raises_15 : decode cX11_raises 15 = .ok (.ldc2_w 474, 3) := by decide +kernel
theorem dX11_raises_18 : decode cX11_raises 18 = .ok (.invokestatic 233, 3) := by decide +kernel
theorem dX11_raises_21 : decode cX11_raises 21 = .ok (.ifCond .eq 13, 3) := by decide +kernel
theorem dX11_raises_24 : decode cX11_raises 24 = .ok (.iload_n 2, 1) := by decide +kernel
theorem dX11_raises_25 : decode cX11_raises 25 = .ok (.i2l, 1) := by decide +kernel
theorem dX11_raises_26 : decode cX11_raises 26 = .ok (.lconst 0, 1) := by decide +kernel
theorem dX11_raises_27 : decode cX11_raises 27 = .ok (.lconst 1, 1) := by decide +kernel
theorem dX11_raises_28 : decode cX11_raises 28 = .ok (.invokestatic 233, 3) := by decide +kernel
theorem dX11_raises_31 : decode cX11_raises 31 = .ok (.ifCond .ne 5, 3) := by decide +kernel
theorem dX11_raises_34 : decode cX11_raises 34 = .ok (.iconst (-1), 1) := by decide +kernel
theorem dX11_raises_35 : decode cX11_raises 35 = .ok (.ireturn, 1) := by decide +kernel
theorem dX11_raises_36 : decode cX11_raises 36 = .ok (.iconst (-1), 1) := by decide +kernel
theorem dX11_raises_37 : decode cX11_raises 37 = .ok (.istore_n 3, 1) := by decide +kernel
theorem dX11_raises_38 : decode cX11_raises 38 = .ok (.iconst 0, 1) := by decide +kernel
theorem dX11_raises_39 : decode cX11_raises 39 = .ok (.istore 4, 2) := by decide +kernel
theorem dX11_raises_41 : decode cX11_raises 41 = .ok (.iconst 0, 1) := by decide +kernel
theorem dX11_raises_42 : decode cX11_raises 42 = .ok (.istore 5, 2) := by decide +kernel
theorem dX11_raises_44 : decode cX11_raises 44 = .ok (.iload 5, 2) := by decide +kernel
theorem dX11_raises_46 : decode cX11_raises 46 = .ok (.bipush 8, 2) := by decide +kernel
theorem dX11_raises_48 : decode cX11_raises 48 = .ok (.if_icmp .gt 86, 3) := by decide +kernel
theorem dX11_raises_51 : decode cX11_raises 51 = .ok (.aload_n 0, 1) := by decide +kernel
theorem dX11_raises_52 : decode cX11_raises 52 = .ok (.getfield 61, 3) := by decide +kernel
theorem dX11_raises_55 : decode cX11_raises 55 = .ok (.aload_n 0, 1) := by decide +kernel
theorem dX11_raises_56 : decode cX11_raises 56 = .ok (.getfield 64, 3) := by decide +kernel
theorem dX11_raises_59 : decode cX11_raises 59 = .ok (.invokestatic 464, 3) := by decide +kernel
theorem dX11_raises_62 : decode cX11_raises 62 = .ok (.aload_n 0, 1) := by decide +kernel
theorem dX11_raises_63 : decode cX11_raises 63 = .ok (.getfield 64, 3) := by decide +kernel
theorem dX11_raises_66 : decode cX11_raises 66 = .ok (.bipush 127, 2) := by decide +kernel
theorem dX11_raises_68 : decode cX11_raises 68 = .ok (.iload 5, 2) := by decide +kernel
theorem dX11_raises_70 : decode cX11_raises 70 = .ok (.iastore, 1) := by decide +kernel
theorem dX11_raises_71 : decode cX11_raises 71 = .ok (.iconst 0, 1) := by decide +kernel
theorem dX11_raises_72 : decode cX11_raises 72 = .ok (.istore 6, 2) := by decide +kernel
theorem dX11_raises_74 : decode cX11_raises 74 = .ok (.iload 6, 2) := by decide +kernel
theorem dX11_raises_76 : decode cX11_raises 76 = .ok (.iload_n 1, 1) := by decide +kernel
theorem dX11_raises_77 : decode cX11_raises 77 = .ok (.if_icmp .ge 17, 3) := by decide +kernel
theorem dX11_raises_80 : decode cX11_raises 80 = .ok (.aload_n 0, 1) := by decide +kernel
theorem dX11_raises_81 : decode cX11_raises 81 = .ok (.aload_n 0, 1) := by decide +kernel
theorem dX11_raises_82 : decode cX11_raises 82 = .ok (.getfield 64, 3) := by decide +kernel
theorem dX11_raises_85 : decode cX11_raises 85 = .ok (.invokevirtual 402, 3) := by decide +kernel
theorem dX11_raises_88 : decode cX11_raises 88 = .ok (.iinc 6 1, 3) := by decide +kernel
theorem dX11_raises_91 : decode cX11_raises 91 = .ok (.goto (-17), 3) := by decide +kernel
theorem dX11_raises_94 : decode cX11_raises 94 = .ok (.iload_n 3, 1) := by decide +kernel
theorem dX11_raises_95 : decode cX11_raises 95 = .ok (.iconst (-1), 1) := by decide +kernel
theorem dX11_raises_96 : decode cX11_raises 96 = .ok (.if_icmp .eq 19, 3) := by decide +kernel
theorem dX11_raises_99 : decode cX11_raises 99 = .ok (.aload_n 0, 1) := by decide +kernel
theorem dX11_raises_100 : decode cX11_raises 100 = .ok (.getfield 64, 3) := by decide +kernel
theorem dX11_raises_103 : decode cX11_raises 103 = .ok (.sipush 129, 3) := by decide +kernel
theorem dX11_raises_106 : decode cX11_raises 106 = .ok (.iaload, 1) := by decide +kernel
theorem dX11_raises_107 : decode cX11_raises 107 = .ok (.iload 4, 2) := by decide +kernel
theorem dX11_raises_109 : decode cX11_raises 109 = .ok (.if_icmp .gt 6, 3) := by decide +kernel
theorem dX11_raises_112 : decode cX11_raises 112 = .ok (.goto 16, 3) := by decide +kernel
theorem dX11_raises_115 : decode cX11_raises 115 = .ok (.iload 5, 2) := by decide +kernel
theorem dX11_raises_117 : decode cX11_raises 117 = .ok (.istore_n 3, 1) := by decide +kernel
theorem dX11_raises_118 : decode cX11_raises 118 = .ok (.aload_n 0, 1) := by decide +kernel
theorem dX11_raises_119 : decode cX11_raises 119 = .ok (.getfield 64, 3) := by decide +kernel
theorem dX11_raises_122 : decode cX11_raises 122 = .ok (.sipush 129, 3) := by decide +kernel
theorem dX11_raises_125 : decode cX11_raises 125 = .ok (.iaload, 1) := by decide +kernel
theorem dX11_raises_126 : decode cX11_raises 126 = .ok (.istore 4, 2) := by decide +kernel
theorem dX11_raises_128 : decode cX11_raises 128 = .ok (.iinc 5 1, 3) := by decide +kernel
theorem dX11_raises_131 : decode cX11_raises 131 = .ok (.goto (-87), 3) := by decide +kernel
theorem dX11_raises_134 : decode cX11_raises 134 = .ok (.iload_n 2, 1) := by decide +kernel
theorem dX11_raises_135 : decode cX11_raises 135 = .ok (.ifCond .ne 7, 3) := by decide +kernel
theorem dX11_raises_138 : decode cX11_raises 138 = .ok (.iload_n 3, 1) := by decide +kernel
theorem dX11_raises_139 : decode cX11_raises 139 = .ok (.goto 5, 3) := by decide +kernel
theorem dX11_raises_142 : decode cX11_raises 142 = .ok (.iload 4, 2) := by decide +kernel
theorem dX11_raises_144 : decode cX11_raises 144 = .ok (.ireturn, 1) := by decide +kernel
def f_Model_raises_L74 (x1 : Int32) (x2 : Int32) (y3 : Int32) (y4 : Int32) (y5 : Int32) (a : Mem × Int32) : Option ((Mem × Int32) ⊕ (Mem)) :=
  @Prod.casesOn (Mem) (Int32) (fun _ => Option ((Mem × Int32) ⊕ (Mem))) a fun τ z6 =>
  if x1 ≤ z6 then
    some (.inr τ)
  else
    (f_Model_passes τ 579).bind fun q9 =>
    some (.inl (q9, (z6 + (1 : Int32))))
def f_Model_raises_L44 (x1 : Int32) (x2 : Int32) (a : Mem × Int32 × Int32 × Int32) : Option ((Mem × Int32 × Int32 × Int32) ⊕ (Mem × Int32 × Int32)) :=
  @Prod.casesOn (Mem) (Int32 × Int32 × Int32) (fun _ => Option ((Mem × Int32 × Int32 × Int32) ⊕ (Mem × Int32 × Int32))) a fun τ b0 =>
  @Prod.casesOn (Int32) (Int32 × Int32) (fun _ => Option ((Mem × Int32 × Int32 × Int32) ⊕ (Mem × Int32 × Int32))) b0 fun z3 b1 =>
  @Prod.casesOn (Int32) (Int32) (fun _ => Option ((Mem × Int32 × Int32 × Int32) ⊕ (Mem × Int32 × Int32))) b1 fun z4 z5 =>
  if (8 : Int32) < z5 then
    some (.inr (τ, z3, z4))
  else
    (f_Model_copy τ 578 579).bind fun q7 =>
    (loopF (f_Model_raises_L74 x1 x2 z3 z4 z5) FU ((sI q7 579 (127 : Int32).toNatClampNeg z5), (0 : Int32))).bind fun w10 =>
    if z3 = (-1 : Int32) then
      some (.inl (w10, z5, (mI w10 579 (129 : Int32).toNatClampNeg), (z5 + (1 : Int32))))
    else
      if z4 < (mI w10 579 (129 : Int32).toNatClampNeg) then
        some (.inl (w10, z5, (mI w10 579 (129 : Int32).toNatClampNeg), (z5 + (1 : Int32))))
      else
        some (.inl (w10, z3, z4, (z5 + (1 : Int32))))
def f_Model_raises (σ : Mem) (x1 : Int32) (x2 : Int32) : Option (Int32 × Mem) :=
  if (mI (sI σ 565 0 (0 : Int32)) 565 27) = (0 : Int32) then
    some ((-1 : Int32), (sI σ 565 0 (0 : Int32)))
  else
    (f_Model_isIn (sI σ 565 0 (0 : Int32)) ((x1).toInt64) (1 : Int64) (60 : Int64)).bind fun q2 =>
    if q2 = (0 : Int32) then
      some ((-1 : Int32), (sI σ 565 0 (0 : Int32)))
    else
      (f_Model_isIn (sI σ 565 0 (0 : Int32)) ((x2).toInt64) (0 : Int64) (1 : Int64)).bind fun q4 =>
      if q4 = (0 : Int32) then
        some ((-1 : Int32), (sI σ 565 0 (0 : Int32)))
      else
        (loopF (f_Model_raises_L44 x1 x2) FU ((sI σ 565 0 (0 : Int32)), (-1 : Int32), (0 : Int32), (0 : Int32))).bind fun q13 =>
        @Prod.casesOn (Mem) (Int32 × Int32) (fun _ => Option (Int32 × Mem)) q13 fun τ13 b0 =>
        @Prod.casesOn (Int32) (Int32) (fun _ => Option (Int32 × Mem)) b0 fun w13_3 w13_4 =>
        if x2 = (0 : Int32) then
          some (w13_3, τ13)
        else
          some (w13_4, τ13)
set_option maxHeartbeats 4000000 in
set_option maxRecDepth 20000 in
theorem gs_Model_raises_L74 (X : Cx θ p s m args c cX11_raises 7 RX11) (hr : meth.sig.returnType = some .int) (hlk : meth.locks = false)  {x1 : Int32} {x2 : Int32} {y3 : Int32} {y4 : Int32} {y5 : Int32} {r : Int32 × Mem}  (τ : Mem) (z6 : Int32) (x : (Mem × Int32) ⊕ (Mem)) (h : f_Model_raises_L74 x1 x2 y3 y4 y5 (τ, z6) = some x) (hk : Sum.elim (fun a => @Prod.casesOn (Mem) (Int32) (fun _ => Prop) a fun τ z6 => GB θ p l e 66 s m args below meth c 7 (some (.int r.1), r.2) 74 [(0, .ref (be θ + 565)), (1, .int x1), (2, .int x2), (3, .int y3), (4, .int y4), (5, .int y5), (6, .int z6)] [] τ) (fun w => GB θ p l e 66 s m args below meth c 7 (some (.int r.1), r.2) 94 [(0, .ref (be θ + 565)), (1, .int x1), (2, .int x2), (3, .int y3), (4, .int y4), (5, .int y5)] [] w) x) : GB θ p l e 66 s m args below meth c 7 (some (.int r.1), r.2) 74 [(0, .ref (be θ + 565)), (1, .int x1), (2, .int x2), (3, .int y3), (4, .int y4), (5, .int y5), (6, .int z6)] [] τ := by
  unfold f_Model_raises_L74 at h
  dsimp only at h
  refine g_iload X dX11_raises_74 6 rfl ?_
  refine g_iload_n X dX11_raises_76 rfl 1 rfl ?_
  refine g_icmp_ge (tgt := 94) X dX11_raises_77 (by decide) (fun c8 => ?_) (fun c8 => ?_)
  · replace h := (if_pos c8).symm.trans h
    have hk := inr_hk h hk
    exact g_sub (lv' := [(0, .ref (be θ + 565)), (1, .int x1), (2, .int x2), (3, .int y3), (4, .int y4), (5, .int y5)]) [0, 1, 2, 3, 4, 5] rfl hk
  · replace h := (if_neg c8).symm.trans h
    refine g_aload_n X dX11_raises_80 rfl 0 rfl ?_
    refine g_aload_n X dX11_raises_81 rfl 0 rfl ?_
    refine g_get X fl_RX11_64 dX11_raises_82 kd_565 (v := .ref (be θ + 579)) rfl ?_
    obtain ⟨q9, hq9, h⟩ := Option.bind_eq_some_iff.mp h
    refine g_cV X (c_Model_passes kd_579 hq9) lk_RX11_402 my_X11_passes (a := 565) (ci := 11) kd_565 (by decide) rfl (As := [.ref (be θ + 579)]) (rest := []) rfl rfl (Nat.le_of_ble_eq_true rfl) ⟨(Nat.le_of_ble_eq_true rfl), (Nat.le_of_ble_eq_true rfl)⟩ ⟨(Nat.le_of_ble_eq_true rfl), (Nat.le_of_ble_eq_true rfl)⟩ dX11_raises_85 (st' := []) (σ' := q9) rfl rfl ?_
    refine g_iinc X dX11_raises_88 (kq := 6) rfl (congrArg (HAdd.hAdd _) ic_1) (by decide) (lv' := [(6, .int (z6 + (1 : Int32))), (0, .ref (be θ + 565)), (1, .int x1), (2, .int x2), (3, .int y3), (4, .int y4), (5, .int y5)]) rfl ?_
    refine g_goto (tgt := 74) X dX11_raises_91 (by decide) ?_
    have hk := inl_hk h hk
    exact g_sub (lv' := [(0, .ref (be θ + 565)), (1, .int x1), (2, .int x2), (3, .int y3), (4, .int y4), (5, .int y5), (6, .int (z6 + (1 : Int32)))]) [1, 2, 3, 4, 5, 6, 0] rfl hk
set_option maxHeartbeats 4000000 in
set_option maxRecDepth 20000 in
theorem gl_Model_raises_L74 (X : Cx θ p s m args c cX11_raises 7 RX11) (hr : meth.sig.returnType = some .int) (hlk : meth.locks = false)  {x1 : Int32} {x2 : Int32} {y3 : Int32} {y4 : Int32} {y5 : Int32} {r : Int32 × Mem}  (n : Nat) (a : Mem × Int32) (b : Mem) (h : loopF (f_Model_raises_L74 x1 x2 y3 y4 y5) n a = some b) (hk : (fun w => GB θ p l e 66 s m args below meth c 7 (some (.int r.1), r.2) 94 [(0, .ref (be θ + 565)), (1, .int x1), (2, .int x2), (3, .int y3), (4, .int y4), (5, .int y5)] [] w) b) : (fun a => @Prod.casesOn (Mem) (Int32) (fun _ => Prop) a fun τ z6 => GB θ p l e 66 s m args below meth c 7 (some (.int r.1), r.2) 74 [(0, .ref (be θ + 565)), (1, .int x1), (2, .int x2), (3, .int y3), (4, .int y4), (5, .int y5), (6, .int z6)] [] τ) a :=
  loopF_by (P := (fun a => @Prod.casesOn (Mem) (Int32) (fun _ => Prop) a fun τ z6 => GB θ p l e 66 s m args below meth c 7 (some (.int r.1), r.2) 74 [(0, .ref (be θ + 565)), (1, .int x1), (2, .int x2), (3, .int y3), (4, .int y4), (5, .int y5), (6, .int z6)] [] τ)) (K := (fun w => GB θ p l e 66 s m args below meth c 7 (some (.int r.1), r.2) 94 [(0, .ref (be θ + 565)), (1, .int x1), (2, .int x2), (3, .int y3), (4, .int y4), (5, .int y5)] [] w)) (fun a x h hk => by obtain ⟨τ, z6⟩ := a; exact gs_Model_raises_L74 X hr hlk   τ z6 x h hk) n a b h hk
set_option maxHeartbeats 4000000 in
set_option maxRecDepth 20000 in
theorem gs_Model_raises_L44 (X : Cx θ p s m args c cX11_raises 7 RX11) (hr : meth.sig.returnType = some .int) (hlk : meth.locks = false)  {x1 : Int32} {x2 : Int32} {r : Int32 × Mem}  (τ : Mem) (z3 : Int32) (z4 : Int32) (z5 : Int32) (x : (Mem × Int32 × Int32 × Int32) ⊕ (Mem × Int32 × Int32)) (h : f_Model_raises_L44 x1 x2 (τ, z3, z4, z5) = some x) (hk : Sum.elim (fun a => @Prod.casesOn (Mem) (Int32 × Int32 × Int32) (fun _ => Prop) a fun τ b0 => @Prod.casesOn (Int32) (Int32 × Int32) (fun _ => Prop) b0 fun z3 b1 => @Prod.casesOn (Int32) (Int32) (fun _ => Prop) b1 fun z4 z5 => GB θ p l e 66 s m args below meth c 7 (some (.int r.1), r.2) 44 [(0, .ref (be θ + 565)), (1, .int x1), (2, .int x2), (3, .int z3), (4, .int z4), (5, .int z5)] [] τ) (fun ex => @Prod.casesOn (Mem) (Int32 × Int32) (fun _ => Prop) ex fun τ b0 => @Prod.casesOn (Int32) (Int32) (fun _ => Prop) b0 fun w_3 w_4 => GB θ p l e 66 s m args below meth c 7 (some (.int r.1), r.2) 134 [(0, .ref (be θ + 565)), (1, .int x1), (2, .int x2), (3, .int w_3), (4, .int w_4)] [] τ) x) : GB θ p l e 66 s m args below meth c 7 (some (.int r.1), r.2) 44 [(0, .ref (be θ + 565)), (1, .int x1), (2, .int x2), (3, .int z3), (4, .int z4), (5, .int z5)] [] τ := by
  unfold f_Model_raises_L44 at h
  dsimp only at h
  refine g_iload X dX11_raises_44 5 rfl ?_
  refine g_bipush X dX11_raises_46 (v := (8 : Int32)) bp_8 ?_
  refine g_icmp_gt (tgt := 134) X dX11_raises_48 (by decide) (fun c6 => ?_) (fun c6 => ?_)
  · replace h := (if_pos c6).symm.trans h
    have hk := inr_hk h hk
    exact g_sub (lv' := [(0, .ref (be θ + 565)), (1, .int x1), (2, .int x2), (3, .int z3), (4, .int z4)]) [0, 1, 2, 3, 4] rfl hk
  · replace h := (if_neg c6).symm.trans h
    refine g_aload_n X dX11_raises_51 rfl 0 rfl ?_
    refine g_get X fl_RX11_61 dX11_raises_52 kd_565 (v := .ref (be θ + 578)) rfl ?_
    refine g_aload_n X dX11_raises_55 rfl 0 rfl ?_
    refine g_get X fl_RX11_64 dX11_raises_56 kd_565 (v := .ref (be θ + 579)) rfl ?_
    obtain ⟨q7, hq7, h⟩ := Option.bind_eq_some_iff.mp h
    refine g_cS X (c_Model_copy kd_578 kd_579 hq7) lk_RX11_464 my_X11_copy (As := [.ref (be θ + 578), .ref (be θ + 579)]) (rest := []) rfl rfl (Nat.le_of_ble_eq_true rfl) ⟨(Nat.le_of_ble_eq_true rfl), (Nat.le_of_ble_eq_true rfl)⟩ ⟨(Nat.le_of_ble_eq_true rfl), (Nat.le_of_ble_eq_true rfl)⟩ dX11_raises_59 (st' := []) (σ' := q7) rfl rfl ?_
    refine g_aload_n X dX11_raises_62 rfl 0 rfl ?_
    refine g_get X fl_RX11_64 dX11_raises_63 kd_565 (v := .ref (be θ + 579)) rfl ?_
    refine g_bipush X dX11_raises_66 (v := (127 : Int32)) bp_127 ?_
    refine g_iload X dX11_raises_68 5 rfl ?_
    refine g_iast X kd_579 ln_579 (inb_in (show inb (127 : Int32) 131 = true by decide)) dX11_raises_70 ?_
    refine g_iconst X dX11_raises_71 (v := (0 : Int32)) ic_0 ?_
    refine g_istore X dX11_raises_72 (by decide) (lv' := [(6, .int (0 : Int32)), (0, .ref (be θ + 565)), (1, .int x1), (2, .int x2), (3, .int z3), (4, .int z4), (5, .int z5)]) rfl ?_
    obtain ⟨w10, hq10, h⟩ := Option.bind_eq_some_iff.mp h
    refine g_sub (lv' := [(0, .ref (be θ + 565)), (1, .int x1), (2, .int x2), (3, .int z3), (4, .int z4), (5, .int z5), (6, .int (0 : Int32))]) [1, 2, 3, 4, 5, 6, 0] rfl (gl_Model_raises_L74 X hr hlk    FU _ w10 hq10 ?_)
    refine g_iload_n X dX11_raises_94 rfl 3 rfl ?_
    refine g_iconst X dX11_raises_95 (v := (-1 : Int32)) ic_m1 ?_
    refine g_icmp_eq (tgt := 115) X dX11_raises_96 (by decide) (fun c11 => ?_) (fun c11 => ?_)
    · replace h := (if_pos c11).symm.trans h
      refine g_iload X dX11_raises_115 5 rfl ?_
      refine g_istore_n X dX11_raises_117 rfl (by decide) (lv' := [(3, .int z5), (0, .ref (be θ + 565)), (1, .int x1), (2, .int x2), (4, .int z4), (5, .int z5)]) rfl ?_
      refine g_aload_n X dX11_raises_118 rfl 1 rfl ?_
      refine g_get X fl_RX11_64 dX11_raises_119 kd_565 (v := .ref (be θ + 579)) rfl ?_
      refine g_sipush X dX11_raises_122 (v := (129 : Int32)) sp_129 ?_
      refine g_iald X kd_579 ln_579 (inb_in (show inb (129 : Int32) 131 = true by decide)) dX11_raises_125 ?_
      refine g_istore X dX11_raises_126 (by decide) (lv' := [(4, .int (mI w10 579 (129 : Int32).toNatClampNeg)), (3, .int z5), (0, .ref (be θ + 565)), (1, .int x1), (2, .int x2), (5, .int z5)]) rfl ?_
      refine g_iinc X dX11_raises_128 (kq := 5) rfl (congrArg (HAdd.hAdd _) ic_1) (by decide) (lv' := [(5, .int (z5 + (1 : Int32))), (4, .int (mI w10 579 (129 : Int32).toNatClampNeg)), (3, .int z5), (0, .ref (be θ + 565)), (1, .int x1), (2, .int x2)]) rfl ?_
      refine g_goto (tgt := 44) X dX11_raises_131 (by decide) ?_
      have hk := inl_hk h hk
      exact g_sub (lv' := [(0, .ref (be θ + 565)), (1, .int x1), (2, .int x2), (3, .int z5), (4, .int (mI w10 579 (129 : Int32).toNatClampNeg)), (5, .int (z5 + (1 : Int32)))]) [3, 4, 5, 2, 1, 0] rfl hk
    · replace h := (if_neg c11).symm.trans h
      refine g_aload_n X dX11_raises_99 rfl 0 rfl ?_
      refine g_get X fl_RX11_64 dX11_raises_100 kd_565 (v := .ref (be θ + 579)) rfl ?_
      refine g_sipush X dX11_raises_103 (v := (129 : Int32)) sp_129 ?_
      refine g_iald X kd_579 ln_579 (inb_in (show inb (129 : Int32) 131 = true by decide)) dX11_raises_106 ?_
      refine g_iload X dX11_raises_107 4 rfl ?_
      refine g_icmp_gt (tgt := 115) X dX11_raises_109 (by decide) (fun c12 => ?_) (fun c12 => ?_)
      · replace h := (if_pos c12).symm.trans h
        refine g_iload X dX11_raises_115 5 rfl ?_
        refine g_istore_n X dX11_raises_117 rfl (by decide) (lv' := [(3, .int z5), (0, .ref (be θ + 565)), (1, .int x1), (2, .int x2), (4, .int z4), (5, .int z5)]) rfl ?_
        refine g_aload_n X dX11_raises_118 rfl 1 rfl ?_
        refine g_get X fl_RX11_64 dX11_raises_119 kd_565 (v := .ref (be θ + 579)) rfl ?_
        refine g_sipush X dX11_raises_122 (v := (129 : Int32)) sp_129 ?_
        refine g_iald X kd_579 ln_579 (inb_in (show inb (129 : Int32) 131 = true by decide)) dX11_raises_125 ?_
        refine g_istore X dX11_raises_126 (by decide) (lv' := [(4, .int (mI w10 579 (129 : Int32).toNatClampNeg)), (3, .int z5), (0, .ref (be θ + 565)), (1, .int x1), (2, .int x2), (5, .int z5)]) rfl ?_
        refine g_iinc X dX11_raises_128 (kq := 5) rfl (congrArg (HAdd.hAdd _) ic_1) (by decide) (lv' := [(5, .int (z5 + (1 : Int32))), (4, .int (mI w10 579 (129 : Int32).toNatClampNeg)), (3, .int z5), (0, .ref (be θ + 565)), (1, .int x1), (2, .int x2)]) rfl ?_
        refine g_goto (tgt := 44) X dX11_raises_131 (by decide) ?_
        have hk := inl_hk h hk
        exact g_sub (lv' := [(0, .ref (be θ + 565)), (1, .int x1), (2, .int x2), (3, .int z5), (4, .int (mI w10 579 (129 : Int32).toNatClampNeg)), (5, .int (z5 + (1 : Int32)))]) [3, 4, 5, 2, 1, 0] rfl hk
      · replace h := (if_neg c12).symm.trans h
        refine g_goto (tgt := 128) X dX11_raises_112 (by decide) ?_
        refine g_iinc X dX11_raises_128 (kq := 5) rfl (congrArg (HAdd.hAdd _) ic_1) (by decide) (lv' := [(5, .int (z5 + (1 : Int32))), (0, .ref (be θ + 565)), (1, .int x1), (2, .int x2), (3, .int z3), (4, .int z4)]) rfl ?_
        refine g_goto (tgt := 44) X dX11_raises_131 (by decide) ?_
        have hk := inl_hk h hk
        exact g_sub (lv' := [(0, .ref (be θ + 565)), (1, .int x1), (2, .int x2), (3, .int z3), (4, .int z4), (5, .int (z5 + (1 : Int32)))]) [1, 2, 3, 4, 5, 0] rfl hk
set_option maxHeartbeats 4000000 in
set_option maxRecDepth 20000 in
theorem gl_Model_raises_L44 (X : Cx θ p s m args c cX11_raises 7 RX11) (hr : meth.sig.returnType = some .int) (hlk : meth.locks = false)  {x1 : Int32} {x2 : Int32} {r : Int32 × Mem}  (n : Nat) (a : Mem × Int32 × Int32 × Int32) (b : Mem × Int32 × Int32) (h : loopF (f_Model_raises_L44 x1 x2) n a = some b) (hk : (fun ex => @Prod.casesOn (Mem) (Int32 × Int32) (fun _ => Prop) ex fun τ b0 => @Prod.casesOn (Int32) (Int32) (fun _ => Prop) b0 fun w_3 w_4 => GB θ p l e 66 s m args below meth c 7 (some (.int r.1), r.2) 134 [(0, .ref (be θ + 565)), (1, .int x1), (2, .int x2), (3, .int w_3), (4, .int w_4)] [] τ) b) : (fun a => @Prod.casesOn (Mem) (Int32 × Int32 × Int32) (fun _ => Prop) a fun τ b0 => @Prod.casesOn (Int32) (Int32 × Int32) (fun _ => Prop) b0 fun z3 b1 => @Prod.casesOn (Int32) (Int32) (fun _ => Prop) b1 fun z4 z5 => GB θ p l e 66 s m args below meth c 7 (some (.int r.1), r.2) 44 [(0, .ref (be θ + 565)), (1, .int x1), (2, .int x2), (3, .int z3), (4, .int z4), (5, .int z5)] [] τ) a :=
  loopF_by (P := (fun a => @Prod.casesOn (Mem) (Int32 × Int32 × Int32) (fun _ => Prop) a fun τ b0 => @Prod.casesOn (Int32) (Int32 × Int32) (fun _ => Prop) b0 fun z3 b1 => @Prod.casesOn (Int32) (Int32) (fun _ => Prop) b1 fun z4 z5 => GB θ p l e 66 s m args below meth c 7 (some (.int r.1), r.2) 44 [(0, .ref (be θ + 565)), (1, .int x1), (2, .int x2), (3, .int z3), (4, .int z4), (5, .int z5)] [] τ)) (K := (fun ex => @Prod.casesOn (Mem) (Int32 × Int32) (fun _ => Prop) ex fun τ b0 => @Prod.casesOn (Int32) (Int32) (fun _ => Prop) b0 fun w_3 w_4 => GB θ p l e 66 s m args below meth c 7 (some (.int r.1), r.2) 134 [(0, .ref (be θ + 565)), (1, .int x1), (2, .int x2), (3, .int w_3), (4, .int w_4)] [] τ)) (fun a x h hk => by obtain ⟨τ, z3, z4, z5⟩ := a; exact gs_Model_raises_L44 X hr hlk   τ z3 z4 z5 x h hk) n a b h hk
set_option maxHeartbeats 4000000 in
set_option maxRecDepth 20000 in
theorem g_Model_raises (X : Cx θ p s m args c cX11_raises 7 RX11) (hr : meth.sig.returnType = some .int) (hlk : meth.locks = false)  {σ : Mem} {x1 : Int32} {x2 : Int32} {r : Int32 × Mem}  (h : f_Model_raises σ x1 x2 = some r) : GB θ p l e 66 s m args below meth c 7 (some (.int r.1), r.2) 0 [(0, .ref (be θ + 565)), (1, .int x1), (2, .int x2)] [] σ := by
  unfold f_Model_raises at h
  refine g_aload_n X dX11_raises_0 rfl 0 rfl ?_
  refine g_iconst X dX11_raises_1 (v := (0 : Int32)) ic_0 ?_
  refine g_putI X fl_RX11_112 dX11_raises_2 kd_565 rfl rfl rfl ?_
  refine g_aload_n X dX11_raises_5 rfl 0 rfl ?_
  refine g_get X fl_RX11_310 dX11_raises_6 kd_565 (v := .int (mI (sI σ 565 0 (0 : Int32)) 565 27)) rfl ?_
  refine g_if_eq (tgt := 34) X dX11_raises_9 (by decide) (fun c1 => ?_) (fun c1 => ?_)
  · replace h := (if_pos c1).symm.trans h
    refine g_iconst X dX11_raises_34 (v := (-1 : Int32)) ic_m1 ?_
    exact g_iret X hr hlk dX11_raises_35 (by cases h; rfl)
  · replace h := (if_neg c1).symm.trans h
    refine g_iload_n X dX11_raises_12 rfl 1 rfl ?_
    refine g_i2l X dX11_raises_13 (v := ((x1).toInt64)) rfl ?_
    refine g_lconst X dX11_raises_14 (v := (1 : Int64)) rfl ?_
    refine g_ldc2 X cst_RX11_474 dX11_raises_15 ?_
    obtain ⟨q2, hq2, h⟩ := Option.bind_eq_some_iff.mp h
    refine g_cS X (c_Model_isIn  hq2) lk_RX11_233 my_X11_isIn (As := [.long ((x1).toInt64), .long (1 : Int64), .long (60 : Int64)]) (rest := []) rfl rfl (Nat.le_of_ble_eq_true rfl) ⟨(Nat.le_of_ble_eq_true rfl), (Nat.le_of_ble_eq_true rfl)⟩ ⟨(Nat.le_of_ble_eq_true rfl), (Nat.le_of_ble_eq_true rfl)⟩ dX11_raises_18 (st' := [.int q2]) (σ' := (sI σ 565 0 (0 : Int32))) rfl rfl ?_
    refine g_if_eq (tgt := 34) X dX11_raises_21 (by decide) (fun c3 => ?_) (fun c3 => ?_)
    · replace h := (if_pos c3).symm.trans h
      refine g_iconst X dX11_raises_34 (v := (-1 : Int32)) ic_m1 ?_
      exact g_iret X hr hlk dX11_raises_35 (by cases h; rfl)
    · replace h := (if_neg c3).symm.trans h
      refine g_iload_n X dX11_raises_24 rfl 2 rfl ?_
      refine g_i2l X dX11_raises_25 (v := ((x2).toInt64)) rfl ?_
      refine g_lconst X dX11_raises_26 (v := (0 : Int64)) rfl ?_
      refine g_lconst X dX11_raises_27 (v := (1 : Int64)) rfl ?_
      obtain ⟨q4, hq4, h⟩ := Option.bind_eq_some_iff.mp h
      refine g_cS X (c_Model_isIn  hq4) lk_RX11_233 my_X11_isIn (As := [.long ((x2).toInt64), .long (0 : Int64), .long (1 : Int64)]) (rest := []) rfl rfl (Nat.le_of_ble_eq_true rfl) ⟨(Nat.le_of_ble_eq_true rfl), (Nat.le_of_ble_eq_true rfl)⟩ ⟨(Nat.le_of_ble_eq_true rfl), (Nat.le_of_ble_eq_true rfl)⟩ dX11_raises_28 (st' := [.int q4]) (σ' := (sI σ 565 0 (0 : Int32))) rfl rfl ?_
      refine g_if_ne (tgt := 36) X dX11_raises_31 (by decide) (fun c5 => ?_) (fun c5 => ?_)
      · replace h := (if_neg c5).symm.trans h
        refine g_iconst X dX11_raises_36 (v := (-1 : Int32)) ic_m1 ?_
        refine g_istore_n X dX11_raises_37 rfl (by decide) (lv' := [(3, .int (-1 : Int32)), (0, .ref (be θ + 565)), (1, .int x1), (2, .int x2)]) rfl ?_
        refine g_iconst X dX11_raises_38 (v := (0 : Int32)) ic_0 ?_
        refine g_istore X dX11_raises_39 (by decide) (lv' := [(4, .int (0 : Int32)), (3, .int (-1 : Int32)), (0, .ref (be θ + 565)), (1, .int x1), (2, .int x2)]) rfl ?_
        refine g_iconst X dX11_raises_41 (v := (0 : Int32)) ic_0 ?_
        refine g_istore X dX11_raises_42 (by decide) (lv' := [(5, .int (0 : Int32)), (4, .int (0 : Int32)), (3, .int (-1 : Int32)), (0, .ref (be θ + 565)), (1, .int x1), (2, .int x2)]) rfl ?_
        obtain ⟨q13, hq13, h⟩ := Option.bind_eq_some_iff.mp h
        refine g_sub (lv' := [(0, .ref (be θ + 565)), (1, .int x1), (2, .int x2), (3, .int (-1 : Int32)), (4, .int (0 : Int32)), (5, .int (0 : Int32))]) [3, 4, 5, 2, 1, 0] rfl (gl_Model_raises_L44 X hr hlk    FU _ q13 hq13 ?_)
        obtain ⟨τ13, w13_3, w13_4⟩ := q13
        dsimp only at h ⊢
        refine g_iload_n X dX11_raises_134 rfl 2 rfl ?_
        refine g_if_ne (tgt := 142) X dX11_raises_135 (by decide) (fun c14 => ?_) (fun c14 => ?_)
        · replace h := (if_neg c14).symm.trans h
          refine g_iload X dX11_raises_142 4 rfl ?_
          exact g_iret X hr hlk dX11_raises_144 (by cases h; rfl)
        · replace h := (if_pos c14).symm.trans h
          refine g_iload_n X dX11_raises_138 rfl 3 rfl ?_
          refine g_goto (tgt := 144) X dX11_raises_139 (by decide) ?_
          exact g_iret X hr hlk dX11_raises_144 (by cases h; rfl)
      · replace h := (if_pos c5).symm.trans h
        refine g_iconst X dX11_raises_34 (v := (-1 : Int32)) ic_m1 ?_
        exact g_iret X hr hlk dX11_raises_35 (by cases h; rfl)
set_option maxHeartbeats 4000000 in
set_option maxRecDepth 20000 in
theorem c_Model_raises {θ : Th} {l : Launch} {σ : Mem} {x1 : Int32} {x2 : Int32} {r : Int32 × Mem}  (h : f_Model_raises σ x1 x2 = some r) : Cn θ l yX11_raises cX11_raises 7 (some .int) 66 0 0 [.ref (be θ + 565), .int x1, .int x2] σ (some (.int r.1), r.2) :=
  Cn.of (by decide) (Nat.le_of_ble_eq_true rfl) (fun p e s m below meth c X hr hlk => g_Model_raises X hr hlk  h)
theorem dX11_selling_0 : decode cX11_selling 0 = .ok (.aload_n 0, 1) := by decide +kernel
theorem dX11_selling_1 : decode cX11_selling 1 = .ok (.iconst 0, 1) := by decide +kernel
theorem dX11_selling_2 : decode cX11_selling 2 = .ok (.putfield 112, 3) := by decide +kernel
theorem dX11_selling_5 : decode cX11_selling 5 = .ok (.aload_n 0, 1) := by decide +kernel
theorem dX11_selling_6 : decode cX11_selling 6 = .ok (.iload_n 1, 1) := by decide +kernel
theorem dX11_selling_7 : decode cX11_selling 7 = .ok (.invokevirtual 326, 3) := by decide +kernel
theorem dX11_selling_10 : decode cX11_selling 10 = .ok (.ifCond .eq 26, 3) := by decide +kernel
theorem dX11_selling_13 : decode cX11_selling 13 = .ok (.aload_n 0, 1) := by decide +kernel
theorem dX11_selling_14 : decode cX11_selling 14 = .ok (.getfield 61, 3) := by decide +kernel
theorem dX11_selling_17 : decode cX11_selling 17 = .ok (.bipush 8, 2) := by decide +kernel
theorem dX11_selling_19 : decode cX11_selling 19 = .ok (.iload_n 1, 1) := by decide +kernel
theorem dX11_selling_20 : decode cX11_selling 20 = .ok (.iadd, 1) := by decide +kernel
theorem dX11_selling_21 : decode cX11_selling 21 = .ok (.iaload, 1) := by decide +kernel
theorem dX11_selling_22 : decode cX11_selling 22 = .ok (.iconst 1, 1) := by decide +kernel
theorem dX11_selling_23 : decode cX11_selling 23 = .ok (.if_icmp .eq 13, 3) := by decide +kernel
theorem dX11_selling_26 : decode cX11_selling 26 = .ok (.iload_n 2, 1) := by decide +kernel
theorem dX11_selling_27 : decode cX11_selling 27 = .ok (.i2l, 1) := by decide +kernel
theorem dX11_selling_28 : decode cX11_selling 28 = .ok (.lconst 0, 1) := by decide +kernel
theorem dX11_selling_29 : decode cX11_selling 29 = .ok (.lconst 1, 1) := by decide +kernel
theorem dX11_selling_30 : decode cX11_selling 30 = .ok (.invokestatic 233, 3) := by decide +kernel
theorem dX11_selling_33 : decode cX11_selling 33 = .ok (.ifCond .ne 5, 3) := by decide +kernel
theorem dX11_selling_36 : decode cX11_selling 36 = .ok (.iconst (-1), 1) := by decide +kernel
theorem dX11_selling_37 : decode cX11_selling 37 = .ok (.ireturn, 1) := by decide +kernel
theorem dX11_selling_38 : decode cX11_selling 38 = .ok (.iconst (-1), 1) := by decide +kernel
theorem dX11_selling_39 : decode cX11_selling 39 = .ok (.istore_n 3, 1) := by decide +kernel
theorem dX11_selling_40 : decode cX11_selling 40 = .ok (.bipush 41, 2) := by decide +kernel
theorem dX11_selling_42 : decode cX11_selling 42 = .ok (.istore 4, 2) := by decide +kernel
theorem dX11_selling_44 : decode cX11_selling 44 = .ok (.aload_n 0, 1) := by decide +kernel
theorem dX11_selling_45 : decode cX11_selling 45 = .ok (.iload_n 1, 1) := by decide +kernel
theorem dX11_selling_46 : decode cX11_selling 46 = .ok (.putfield 87, 3) := by decide +kernel
theorem dX11_selling_49 : decode cX11_selling 49 = .ok (.iconst 0, 1) := by decide +kernel
theorem dX11_selling_50 : decode cX11_selling 50 = .ok (.istore 5, 2) := by decide +kernel
theorem dX11_selling_52 : decode cX11_selling 52 = .ok (.iload 5, 2) := by decide +kernel
theorem dX11_selling_54 : decode cX11_selling 54 = .ok (.bipush 9, 2) := by decide +kernel
theorem dX11_selling_56 : decode cX11_selling 56 = .ok (.if_icmp .gt 72, 3) := by decide +kernel
theorem dX11_selling_59 : decode cX11_selling 59 = .ok (.aload_n 0, 1) := by decide +kernel
theorem dX11_selling_60 : decode cX11_selling 60 = .ok (.iload 5, 2) := by decide +kernel
theorem dX11_selling_62 : decode cX11_selling 62 = .ok (.putfield 332, 3) := by decide +kernel
theorem dX11_selling_65 : decode cX11_selling 65 = .ok (.aload_n 0, 1) := by decide +kernel
theorem dX11_selling_66 : decode cX11_selling 66 = .ok (.getfield 61, 3) := by decide +kernel
theorem dX11_selling_69 : decode cX11_selling 69 = .ok (.aload_n 0, 1) := by decide +kernel
theorem dX11_selling_70 : decode cX11_selling 70 = .ok (.getfield 64, 3) := by decide +kernel
theorem dX11_selling_73 : decode cX11_selling 73 = .ok (.invokestatic 464, 3) := by decide +kernel
theorem dX11_selling_76 : decode cX11_selling 76 = .ok (.iconst 1, 1) := by decide +kernel
theorem dX11_selling_77 : decode cX11_selling 77 = .ok (.istore 6, 2) := by decide +kernel
theorem dX11_selling_79 : decode cX11_selling 79 = .ok (.iload 6, 2) := by decide +kernel
theorem dX11_selling_81 : decode cX11_selling 81 = .ok (.iload 4, 2) := by decide +kernel
theorem dX11_selling_83 : decode cX11_selling 83 = .ok (.if_icmp .ge 39, 3) := by decide +kernel
theorem dX11_selling_86 : decode cX11_selling 86 = .ok (.aload_n 0, 1) := by decide +kernel
theorem dX11_selling_87 : decode cX11_selling 87 = .ok (.aload_n 0, 1) := by decide +kernel
theorem dX11_selling_88 : decode cX11_selling 88 = .ok (.getfield 64, 3) := by decide +kernel
theorem dX11_selling_91 : decode cX11_selling 91 = .ok (.invokevirtual 402, 3) := by decide +kernel
theorem dX11_selling_94 : decode cX11_selling 94 = .ok (.aload_n 0, 1) := by decide +kernel
theorem dX11_selling_95 : decode cX11_selling 95 = .ok (.getfield 64, 3) := by decide +kernel
theorem dX11_selling_98 : decode cX11_selling 98 = .ok (.bipush 8, 2) := by decide +kernel
theorem dX11_selling_100 : decode cX11_selling 100 = .ok (.iload_n 1, 1) := by decide +kernel
theorem dX11_selling_101 : decode cX11_selling 101 = .ok (.iadd, 1) := by decide +kernel
theorem dX11_selling_102 : decode cX11_selling 102 = .ok (.iaload, 1) := by decide +kernel
theorem dX11_selling_103 : decode cX11_selling 103 = .ok (.ifCond .ne 6, 3) := by decide +kernel
theorem dX11_selling_106 : decode cX11_selling 106 = .ok (.goto 10, 3) := by decide +kernel
theorem dX11_selling_109 : decode cX11_selling 109 = .ok (.iload 5, 2) := by decide +kernel
theorem dX11_selling_111 : decode cX11_selling 111 = .ok (.istore_n 3, 1) := by decide +kernel
theorem dX11_selling_112 : decode cX11_selling 112 = .ok (.iload 6, 2) := by decide +kernel
theorem dX11_selling_114 : decode cX11_selling 114 = .ok (.istore 4, 2) := by decide +kernel
theorem dX11_selling_116 : decode cX11_selling 116 = .ok (.iinc 6 1, 3) := by decide +kernel
theorem dX11_selling_119 : decode cX11_selling 119 = .ok (.goto (-40), 3) := by decide +kernel
theorem dX11_selling_122 : decode cX11_selling 122 = .ok (.iinc 5 1, 3) := by decide +kernel
theorem dX11_selling_125 : decode cX11_selling 125 = .ok (.goto (-73), 3) := by decide +kernel
theorem dX11_selling_128 : decode cX11_selling 128 = .ok (.aload_n 0, 1) := by decide +kernel
theorem dX11_selling_129 : decode cX11_selling 129 = .ok (.iconst (-1), 1) := by decide +kernel
theorem dX11_selling_130 : decode cX11_selling 130 = .ok (.putfield 87, 3) := by decide +kernel
theorem dX11_selling_133 : decode cX11_selling 133 = .ok (.iload_n 3, 1) := by decide +kernel
theorem dX11_selling_134 : decode cX11_selling 134 = .ok (.iconst (-1), 1) := by decide +kernel
theorem dX11_selling_135 : decode cX11_selling 135 = .ok (.if_icmp .ne 7, 3) := by decide +kernel
theorem dX11_selling_138 : decode cX11_selling 138 = .ok (.iconst (-1), 1) := by decide +kernel
theorem dX11_selling_139 : decode cX11_selling 139 = .ok (.goto 13, 3) := by decide +kernel
theorem dX11_selling_142 : decode cX11_selling 142 = .ok (.iload_n 2, 1) := by decide +kernel
theorem dX11_selling_143 : decode cX11_selling 143 = .ok (.ifCond .ne 7, 3) := by decide +kernel
theorem dX11_selling_146 : decode cX11_selling 146 = .ok (.iload_n 3, 1) := by decide +kernel
theorem dX11_selling_147 : decode cX11_selling 147 = .ok (.goto 5, 3) := by decide +kernel
theorem dX11_selling_150 : decode cX11_selling 150 = .ok (.iload 4, 2) := by decide +kernel
theorem dX11_selling_152 : decode cX11_selling 152 = .ok (.ireturn, 1) := by decide +kernel
def f_Model_selling_L79 (x1 : Int32) (x2 : Int32) (y5 : Int32) (a : Mem × Int32 × Int32 × Int32) : Option ((Mem × Int32 × Int32 × Int32) ⊕ (Mem × Int32 × Int32)) :=
  @Prod.casesOn (Mem) (Int32 × Int32 × Int32) (fun _ => Option ((Mem × Int32 × Int32 × Int32) ⊕ (Mem × Int32 × Int32))) a fun τ b0 =>
  @Prod.casesOn (Int32) (Int32 × Int32) (fun _ => Option ((Mem × Int32 × Int32 × Int32) ⊕ (Mem × Int32 × Int32))) b0 fun z3 b1 =>
  @Prod.casesOn (Int32) (Int32) (fun _ => Option ((Mem × Int32 × Int32 × Int32) ⊕ (Mem × Int32 × Int32))) b1 fun z4 z6 =>
  if z4 ≤ z6 then
    some (.inr (τ, z3, z4))
  else
    (f_Model_passes τ 579).bind fun q10 =>
    if inb ((8 : Int32) + x1) 131 then
      if (mI q10 579 ((8 : Int32) + x1).toNatClampNeg) = (0 : Int32) then
        some (.inl (q10, z3, z4, (z6 + (1 : Int32))))
      else
        some (.inl (q10, y5, z6, (z6 + (1 : Int32))))
    else none
def f_Model_selling_L52 (x1 : Int32) (x2 : Int32) (a : Mem × Int32 × Int32 × Int32) : Option ((Mem × Int32 × Int32 × Int32) ⊕ (Mem × Int32 × Int32)) :=
  @Prod.casesOn (Mem) (Int32 × Int32 × Int32) (fun _ => Option ((Mem × Int32 × Int32 × Int32) ⊕ (Mem × Int32 × Int32))) a fun τ b0 =>
  @Prod.casesOn (Int32) (Int32 × Int32) (fun _ => Option ((Mem × Int32 × Int32 × Int32) ⊕ (Mem × Int32 × Int32))) b0 fun z3 b1 =>
  @Prod.casesOn (Int32) (Int32) (fun _ => Option ((Mem × Int32 × Int32 × Int32) ⊕ (Mem × Int32 × Int32))) b1 fun z4 z5 =>
  if (9 : Int32) < z5 then
    some (.inr (τ, z3, z4))
  else
    (f_Model_copy (sI τ 565 42 z5) 578 579).bind fun q8 =>
    (loopF (f_Model_selling_L79 x1 x2 z5) FU (q8, z3, z4, (1 : Int32))).bind fun q13 =>
    @Prod.casesOn (Mem) (Int32 × Int32) (fun _ => Option ((Mem × Int32 × Int32 × Int32) ⊕ (Mem × Int32 × Int32))) q13 fun τ13 b0 =>
    @Prod.casesOn (Int32) (Int32) (fun _ => Option ((Mem × Int32 × Int32 × Int32) ⊕ (Mem × Int32 × Int32))) b0 fun w13_3 w13_4 =>
    some (.inl (τ13, w13_3, w13_4, (z5 + (1 : Int32))))
def f_Model_selling (σ : Mem) (x1 : Int32) (x2 : Int32) : Option (Int32 × Mem) :=
  (f_Model_isThing (sI σ 565 0 (0 : Int32)) x1).bind fun q1 =>
  if q1 = (0 : Int32) then
    some ((-1 : Int32), (sI σ 565 0 (0 : Int32)))
  else
    if inb ((8 : Int32) + x1) 312 then
      if (mI (sI σ 565 0 (0 : Int32)) 578 ((8 : Int32) + x1).toNatClampNeg) = (1 : Int32) then
        some ((-1 : Int32), (sI σ 565 0 (0 : Int32)))
      else
        (f_Model_isIn (sI σ 565 0 (0 : Int32)) ((x2).toInt64) (0 : Int64) (1 : Int64)).bind fun q5 =>
        if q5 = (0 : Int32) then
          some ((-1 : Int32), (sI σ 565 0 (0 : Int32)))
        else
          (loopF (f_Model_selling_L52 x1 x2) FU ((sI (sI σ 565 0 (0 : Int32)) 565 41 x1), (-1 : Int32), (41 : Int32), (0 : Int32))).bind fun q14 =>
          @Prod.casesOn (Mem) (Int32 × Int32) (fun _ => Option (Int32 × Mem)) q14 fun τ14 b0 =>
          @Prod.casesOn (Int32) (Int32) (fun _ => Option (Int32 × Mem)) b0 fun w14_3 w14_4 =>
          if w14_3 = (-1 : Int32) then
            some ((-1 : Int32), (sI τ14 565 41 (-1 : Int32)))
          else
            if x2 = (0 : Int32) then
              some (w14_3, (sI τ14 565 41 (-1 : Int32)))
            else
              some (w14_4, (sI τ14 565 41 (-1 : Int32)))
    else none
set_option maxHeartbeats 4000000 in
set_option maxRecDepth 20000 in
theorem gs_Model_selling_L79 (X : Cx θ p s m args c cX11_selling 7 RX11) (hr : meth.sig.returnType = some .int) (hlk : meth.locks = false)  {x1 : Int32} {x2 : Int32} {y5 : Int32} {r : Int32 × Mem}  (τ : Mem) (z3 : Int32) (z4 : Int32) (z6 : Int32) (x : (Mem × Int32 × Int32 × Int32) ⊕ (Mem × Int32 × Int32)) (h : f_Model_selling_L79 x1 x2 y5 (τ, z3, z4, z6) = some x) (hk : Sum.elim (fun a => @Prod.casesOn (Mem) (Int32 × Int32 × Int32) (fun _ => Prop) a fun τ b0 => @Prod.casesOn (Int32) (Int32 × Int32) (fun _ => Prop) b0 fun z3 b1 => @Prod.casesOn (Int32) (Int32) (fun _ => Prop) b1 fun z4 z6 => GB θ p l e 66 s m args below meth c 7 (some (.int r.1), r.2) 79 [(0, .ref (be θ + 565)), (1, .int x1), (2, .int x2), (3, .int z3), (4, .int z4), (5, .int y5), (6, .int z6)] [] τ) (fun ex => @Prod.casesOn (Mem) (Int32 × Int32) (fun _ => Prop) ex fun τ b0 => @Prod.casesOn (Int32) (Int32) (fun _ => Prop) b0 fun w_3 w_4 => GB θ p l e 66 s m args below meth c 7 (some (.int r.1), r.2) 122 [(0, .ref (be θ + 565)), (1, .int x1), (2, .int x2), (3, .int w_3), (4, .int w_4), (5, .int y5)] [] τ) x) : GB θ p l e 66 s m args below meth c 7 (some (.int r.1), r.2) 79 [(0, .ref (be θ + 565)), (1, .int x1), (2, .int x2), (3, .int z3), (4, .int z4), (5, .int y5), (6, .int z6)] [] τ := by
  unfold f_Model_selling_L79 at h
  dsimp only at h
  refine g_iload X dX11_selling_79 6 rfl ?_
  refine g_iload X dX11_selling_81 4 rfl ?_
  refine g_icmp_ge (tgt := 122) X dX11_selling_83 (by decide) (fun c9 => ?_) (fun c9 => ?_)
  · replace h := (if_pos c9).symm.trans h
    have hk := inr_hk h hk
    exact g_sub (lv' := [(0, .ref (be θ + 565)), (1, .int x1), (2, .int x2), (3, .int z3), (4, .int z4), (5, .int y5)]) [0, 1, 2, 3, 4, 5] rfl hk
  · replace h := (if_neg c9).symm.trans h
    refine g_aload_n X dX11_selling_86 rfl 0 rfl ?_
    refine g_aload_n X dX11_selling_87 rfl 0 rfl ?_
    refine g_get X fl_RX11_64 dX11_selling_88 kd_565 (v := .ref (be θ + 579)) rfl ?_
    obtain ⟨q10, hq10, h⟩ := Option.bind_eq_some_iff.mp h
    refine g_cV X (c_Model_passes kd_579 hq10) lk_RX11_402 my_X11_passes (a := 565) (ci := 11) kd_565 (by decide) rfl (As := [.ref (be θ + 579)]) (rest := []) rfl rfl (Nat.le_of_ble_eq_true rfl) ⟨(Nat.le_of_ble_eq_true rfl), (Nat.le_of_ble_eq_true rfl)⟩ ⟨(Nat.le_of_ble_eq_true rfl), (Nat.le_of_ble_eq_true rfl)⟩ dX11_selling_91 (st' := []) (σ' := q10) rfl rfl ?_
    refine g_aload_n X dX11_selling_94 rfl 0 rfl ?_
    refine g_get X fl_RX11_64 dX11_selling_95 kd_565 (v := .ref (be θ + 579)) rfl ?_
    refine g_bipush X dX11_selling_98 (v := (8 : Int32)) bp_8 ?_
    refine g_iload_n X dX11_selling_100 rfl 1 rfl ?_
    refine g_iadd X dX11_selling_101 ?_
    obtain ⟨g11, h⟩ := ite_some h
    refine g_iald X kd_579 ln_579 (inb_in g11) dX11_selling_102 ?_
    refine g_if_ne (tgt := 109) X dX11_selling_103 (by decide) (fun c12 => ?_) (fun c12 => ?_)
    · replace h := (if_neg c12).symm.trans h
      refine g_iload X dX11_selling_109 5 rfl ?_
      refine g_istore_n X dX11_selling_111 rfl (by decide) (lv' := [(3, .int y5), (0, .ref (be θ + 565)), (1, .int x1), (2, .int x2), (4, .int z4), (5, .int y5), (6, .int z6)]) rfl ?_
      refine g_iload X dX11_selling_112 6 rfl ?_
      refine g_istore X dX11_selling_114 (by decide) (lv' := [(4, .int z6), (3, .int y5), (0, .ref (be θ + 565)), (1, .int x1), (2, .int x2), (5, .int y5), (6, .int z6)]) rfl ?_
      refine g_iinc X dX11_selling_116 (kq := 6) rfl (congrArg (HAdd.hAdd _) ic_1) (by decide) (lv' := [(6, .int (z6 + (1 : Int32))), (4, .int z6), (3, .int y5), (0, .ref (be θ + 565)), (1, .int x1), (2, .int x2), (5, .int y5)]) rfl ?_
      refine g_goto (tgt := 79) X dX11_selling_119 (by decide) ?_
      have hk := inl_hk h hk
      exact g_sub (lv' := [(0, .ref (be θ + 565)), (1, .int x1), (2, .int x2), (3, .int y5), (4, .int z6), (5, .int y5), (6, .int (z6 + (1 : Int32)))]) [3, 4, 5, 2, 1, 6, 0] rfl hk
    · replace h := (if_pos c12).symm.trans h
      refine g_goto (tgt := 116) X dX11_selling_106 (by decide) ?_
      refine g_iinc X dX11_selling_116 (kq := 6) rfl (congrArg (HAdd.hAdd _) ic_1) (by decide) (lv' := [(6, .int (z6 + (1 : Int32))), (0, .ref (be θ + 565)), (1, .int x1), (2, .int x2), (3, .int z3), (4, .int z4), (5, .int y5)]) rfl ?_
      refine g_goto (tgt := 79) X dX11_selling_119 (by decide) ?_
      have hk := inl_hk h hk
      exact g_sub (lv' := [(0, .ref (be θ + 565)), (1, .int x1), (2, .int x2), (3, .int z3), (4, .int z4), (5, .int y5), (6, .int (z6 + (1 : Int32)))]) [1, 2, 3, 4, 5, 6, 0] rfl hk
set_option maxHeartbeats 4000000 in
set_option maxRecDepth 20000 in
theorem gl_Model_selling_L79 (X : Cx θ p s m args c cX11_selling 7 RX11) (hr : meth.sig.returnType = some .int) (hlk : meth.locks = false)  {x1 : Int32} {x2 : Int32} {y5 : Int32} {r : Int32 × Mem}  (n : Nat) (a : Mem × Int32 × Int32 × Int32) (b : Mem × Int32 × Int32) (h : loopF (f_Model_selling_L79 x1 x2 y5) n a = some b) (hk : (fun ex => @Prod.casesOn (Mem) (Int32 × Int32) (fun _ => Prop) ex fun τ b0 => @Prod.casesOn (Int32) (Int32) (fun _ => Prop) b0 fun w_3 w_4 => GB θ p l e 66 s m args below meth c 7 (some (.int r.1), r.2) 122 [(0, .ref (be θ + 565)), (1, .int x1), (2, .int x2), (3, .int w_3), (4, .int w_4), (5, .int y5)] [] τ) b) : (fun a => @Prod.casesOn (Mem) (Int32 × Int32 × Int32) (fun _ => Prop) a fun τ b0 => @Prod.casesOn (Int32) (Int32 × Int32) (fun _ => Prop) b0 fun z3 b1 => @Prod.casesOn (Int32) (Int32) (fun _ => Prop) b1 fun z4 z6 => GB θ p l e 66 s m args below meth c 7 (some (.int r.1), r.2) 79 [(0, .ref (be θ + 565)), (1, .int x1), (2, .int x2), (3, .int z3), (4, .int z4), (5, .int y5), (6, .int z6)] [] τ) a :=
  loopF_by (P := (fun a => @Prod.casesOn (Mem) (Int32 × Int32 × Int32) (fun _ => Prop) a fun τ b0 => @Prod.casesOn (Int32) (Int32 × Int32) (fun _ => Prop) b0 fun z3 b1 => @Prod.casesOn (Int32) (Int32) (fun _ => Prop) b1 fun z4 z6 => GB θ p l e 66 s m args below meth c 7 (some (.int r.1), r.2) 79 [(0, .ref (be θ + 565)), (1, .int x1), (2, .int x2), (3, .int z3), (4, .int z4), (5, .int y5), (6, .int z6)] [] τ)) (K := (fun ex => @Prod.casesOn (Mem) (Int32 × Int32) (fun _ => Prop) ex fun τ b0 => @Prod.casesOn (Int32) (Int32) (fun _ => Prop) b0 fun w_3 w_4 => GB θ p l e 66 s m args below meth c 7 (some (.int r.1), r.2) 122 [(0, .ref (be θ + 565)), (1, .int x1), (2, .int x2), (3, .int w_3), (4, .int w_4), (5, .int y5)] [] τ)) (fun a x h hk => by obtain ⟨τ, z3, z4, z6⟩ := a; exact gs_Model_selling_L79 X hr hlk   τ z3 z4 z6 x h hk) n a b h hk
set_option maxHeartbeats 4000000 in
set_option maxRecDepth 20000 in
theorem gs_Model_selling_L52 (X : Cx θ p s m args c cX11_selling 7 RX11) (hr : meth.sig.returnType = some .int) (hlk : meth.locks = false)  {x1 : Int32} {x2 : Int32} {r : Int32 × Mem}  (τ : Mem) (z3 : Int32) (z4 : Int32) (z5 : Int32) (x : (Mem × Int32 × Int32 × Int32) ⊕ (Mem × Int32 × Int32)) (h : f_Model_selling_L52 x1 x2 (τ, z3, z4, z5) = some x) (hk : Sum.elim (fun a => @Prod.casesOn (Mem) (Int32 × Int32 × Int32) (fun _ => Prop) a fun τ b0 => @Prod.casesOn (Int32) (Int32 × Int32) (fun _ => Prop) b0 fun z3 b1 => @Prod.casesOn (Int32) (Int32) (fun _ => Prop) b1 fun z4 z5 => GB θ p l e 66 s m args below meth c 7 (some (.int r.1), r.2) 52 [(0, .ref (be θ + 565)), (1, .int x1), (2, .int x2), (3, .int z3), (4, .int z4), (5, .int z5)] [] τ) (fun ex => @Prod.casesOn (Mem) (Int32 × Int32) (fun _ => Prop) ex fun τ b0 => @Prod.casesOn (Int32) (Int32) (fun _ => Prop) b0 fun w_3 w_4 => GB θ p l e 66 s m args below meth c 7 (some (.int r.1), r.2) 128 [(0, .ref (be θ + 565)), (1, .int x1), (2, .int x2), (3, .int w_3), (4, .int w_4)] [] τ) x) : GB θ p l e 66 s m args below meth c 7 (some (.int r.1), r.2) 52 [(0, .ref (be θ + 565)), (1, .int x1), (2, .int x2), (3, .int z3), (4, .int z4), (5, .int z5)] [] τ := by
  unfold f_Model_selling_L52 at h
  dsimp only at h
  refine g_iload X dX11_selling_52 5 rfl ?_
  refine g_bipush X dX11_selling_54 (v := (9 : Int32)) bp_9 ?_
  refine g_icmp_gt (tgt := 128) X dX11_selling_56 (by decide) (fun c7 => ?_) (fun c7 => ?_)
  · replace h := (if_pos c7).symm.trans h
    have hk := inr_hk h hk
    exact g_sub (lv' := [(0, .ref (be θ + 565)), (1, .int x1), (2, .int x2), (3, .int z3), (4, .int z4)]) [0, 1, 2, 3, 4] rfl hk
  · replace h := (if_neg c7).symm.trans h
    refine g_aload_n X dX11_selling_59 rfl 0 rfl ?_
    refine g_iload X dX11_selling_60 5 rfl ?_
    refine g_putI X fl_RX11_332 dX11_selling_62 kd_565 rfl rfl rfl ?_
    refine g_aload_n X dX11_selling_65 rfl 0 rfl ?_
    refine g_get X fl_RX11_61 dX11_selling_66 kd_565 (v := .ref (be θ + 578)) rfl ?_
    refine g_aload_n X dX11_selling_69 rfl 0 rfl ?_
    refine g_get X fl_RX11_64 dX11_selling_70 kd_565 (v := .ref (be θ + 579)) rfl ?_
    obtain ⟨q8, hq8, h⟩ := Option.bind_eq_some_iff.mp h
    refine g_cS X (c_Model_copy kd_578 kd_579 hq8) lk_RX11_464 my_X11_copy (As := [.ref (be θ + 578), .ref (be θ + 579)]) (rest := []) rfl rfl (Nat.le_of_ble_eq_true rfl) ⟨(Nat.le_of_ble_eq_true rfl), (Nat.le_of_ble_eq_true rfl)⟩ ⟨(Nat.le_of_ble_eq_true rfl), (Nat.le_of_ble_eq_true rfl)⟩ dX11_selling_73 (st' := []) (σ' := q8) rfl rfl ?_
    refine g_iconst X dX11_selling_76 (v := (1 : Int32)) ic_1 ?_
    refine g_istore X dX11_selling_77 (by decide) (lv' := [(6, .int (1 : Int32)), (0, .ref (be θ + 565)), (1, .int x1), (2, .int x2), (3, .int z3), (4, .int z4), (5, .int z5)]) rfl ?_
    obtain ⟨q13, hq13, h⟩ := Option.bind_eq_some_iff.mp h
    refine g_sub (lv' := [(0, .ref (be θ + 565)), (1, .int x1), (2, .int x2), (3, .int z3), (4, .int z4), (5, .int z5), (6, .int (1 : Int32))]) [1, 2, 3, 4, 5, 6, 0] rfl (gl_Model_selling_L79 X hr hlk    FU _ q13 hq13 ?_)
    obtain ⟨τ13, w13_3, w13_4⟩ := q13
    dsimp only at h ⊢
    refine g_iinc X dX11_selling_122 (kq := 5) rfl (congrArg (HAdd.hAdd _) ic_1) (by decide) (lv' := [(5, .int (z5 + (1 : Int32))), (0, .ref (be θ + 565)), (1, .int x1), (2, .int x2), (3, .int w13_3), (4, .int w13_4)]) rfl ?_
    refine g_goto (tgt := 52) X dX11_selling_125 (by decide) ?_
    have hk := inl_hk h hk
    exact g_sub (lv' := [(0, .ref (be θ + 565)), (1, .int x1), (2, .int x2), (3, .int w13_3), (4, .int w13_4), (5, .int (z5 + (1 : Int32)))]) [1, 2, 3, 4, 5, 0] rfl hk
set_option maxHeartbeats 4000000 in
set_option maxRecDepth 20000 in
theorem gl_Model_selling_L52 (X : Cx θ p s m args c cX11_selling 7 RX11) (hr : meth.sig.returnType = some .int) (hlk : meth.locks = false)  {x1 : Int32} {x2 : Int32} {r : Int32 × Mem}  (n : Nat) (a : Mem × Int32 × Int32 × Int32) (b : Mem × Int32 × Int32) (h : loopF (f_Model_selling_L52 x1 x2) n a = some b) (hk : (fun ex => @Prod.casesOn (Mem) (Int32 × Int32) (fun _ => Prop) ex fun τ b0 => @Prod.casesOn (Int32) (Int32) (fun _ => Prop) b0 fun w_3 w_4 => GB θ p l e 66 s m args below meth c 7 (some (.int r.1), r.2) 128 [(0, .ref (be θ + 565)), (1, .int x1), (2, .int x2), (3, .int w_3), (4, .int w_4)] [] τ) b) : (fun a => @Prod.casesOn (Mem) (Int32 × Int32 × Int32) (fun _ => Prop) a fun τ b0 => @Prod.casesOn (Int32) (Int32 × Int32) (fun _ => Prop) b0 fun z3 b1 => @Prod.casesOn (Int32) (Int32) (fun _ => Prop) b1 fun z4 z5 => GB θ p l e 66 s m args below meth c 7 (some (.int r.1), r.2) 52 [(0, .ref (be θ + 565)), (1, .int x1), (2, .int x2), (3, .int z3), (4, .int z4), (5, .int z5)] [] τ) a :=
  loopF_by (P := (fun a => @Prod.casesOn (Mem) (Int32 × Int32 × Int32) (fun _ => Prop) a fun τ b0 => @Prod.casesOn (Int32) (Int32 × Int32) (fun _ => Prop) b0 fun z3 b1 => @Prod.casesOn (Int32) (Int32) (fun _ => Prop) b1 fun z4 z5 => GB θ p l e 66 s m args below meth c 7 (some (.int r.1), r.2) 52 [(0, .ref (be θ + 565)), (1, .int x1), (2, .int x2), (3, .int z3), (4, .int z4), (5, .int z5)] [] τ)) (K := (fun ex => @Prod.casesOn (Mem) (Int32 × Int32) (fun _ => Prop) ex fun τ b0 => @Prod.casesOn (Int32) (Int32) (fun _ => Prop) b0 fun w_3 w_4 => GB θ p l e 66 s m args below meth c 7 (some (.int r.1), r.2) 128 [(0, .ref (be θ + 565)), (1, .int x1), (2, .int x2), (3, .int w_3), (4, .int w_4)] [] τ)) (fun a x h hk => by obtain ⟨τ, z3, z4, z5⟩ := a; exact gs_Model_selling_L52 X hr hlk   τ z3 z4 z5 x h hk) n a b h hk
set_option maxHeartbeats 4000000 in
set_option maxRecDepth 20000 in
theorem g_Model_selling (X : Cx θ p s m args c cX11_selling 7 RX11) (hr : meth.sig.returnType = some .int) (hlk : meth.locks = false)  {σ : Mem} {x1 : Int32} {x2 : Int32} {r : Int32 × Mem}  (h : f_Model_selling σ x1 x2 = some r) : GB θ p l e 66 s m args below meth c 7 (some (.int r.1), r.2) 0 [(0, .ref (be θ + 565)), (1, .int x1), (2, .int x2)] [] σ := by
  unfold f_Model_selling at h
  refine g_aload_n X dX11_selling_0 rfl 0 rfl ?_
  refine g_iconst X dX11_selling_1 (v := (0 : Int32)) ic_0 ?_
  refine g_putI X fl_RX11_112 dX11_selling_2 kd_565 rfl rfl rfl ?_
  refine g_aload_n X dX11_selling_5 rfl 0 rfl ?_
  refine g_iload_n X dX11_selling_6 rfl 1 rfl ?_
  obtain ⟨q1, hq1, h⟩ := Option.bind_eq_some_iff.mp h
  refine g_cV X (c_Model_isThing  hq1) lk_RX11_326 my_X11_isThing (a := 565) (ci := 11) kd_565 (by decide) rfl (As := [.int x1]) (rest := []) rfl rfl (Nat.le_of_ble_eq_true rfl) ⟨(Nat.le_of_ble_eq_true rfl), (Nat.le_of_ble_eq_true rfl)⟩ ⟨(Nat.le_of_ble_eq_true rfl), (Nat.le_of_ble_eq_true rfl)⟩ dX11_selling_7 (st' := [.int q1]) (σ' := (sI σ 565 0 (0 : Int32))) rfl rfl ?_
  refine g_if_eq (tgt := 36) X dX11_selling_10 (by decide) (fun c2 => ?_) (fun c2 => ?_)
  · replace h := (if_pos c2).symm.trans h
    refine g_iconst X dX11_selling_36 (v := (-1 : Int32)) ic_m1 ?_
    exact g_iret X hr hlk dX11_selling_37 (by cases h; rfl)
  · replace h := (if_neg c2).symm.trans h
    refine g_aload_n X dX11_selling_13 rfl 0 rfl ?_
    refine g_get X fl_RX11_61 dX11_selling_14 kd_565 (v := .ref (be θ + 578)) rfl ?_
    refine g_bipush X dX11_selling_17 (v := (8 : Int32)) bp_8 ?_
    refine g_iload_n X dX11_selling_19 rfl 1 rfl ?_
    refine g_iadd X dX11_selling_20 ?_
    obtain ⟨g3, h⟩ := ite_some h
    refine g_iald X kd_578 ln_578 (inb_in g3) dX11_selling_21 ?_
    refine g_iconst X dX11_selling_22 (v := (1 : Int32)) ic_1 ?_
    refine g_icmp_eq (tgt := 36) X dX11_selling_23 (by decide) (fun c4 => ?_) (fun c4 => ?_)
    · replace h := (if_pos c4).symm.trans h
      refine g_iconst X dX11_selling_36 (v := (-1 : Int32)) ic_m1 ?_
      exact g_iret X hr hlk dX11_selling_37 (by cases h; rfl)
    · replace h := (if_neg c4).symm.trans h
      refine g_iload_n X dX11_selling_26 rfl 2 rfl ?_
      refine g_i2l X dX11_selling_27 (v := ((x2).toInt64)) rfl ?_
      refine g_lconst X dX11_selling_28 (v := (0 : Int64)) rfl ?_
      refine g_lconst X dX11_selling_29 (v := (1 : Int64)) rfl ?_
      obtain ⟨q5, hq5, h⟩ := Option.bind_eq_some_iff.mp h
      refine g_cS X (c_Model_isIn  hq5) lk_RX11_233 my_X11_isIn (As := [.long ((x2).toInt64), .long (0 : Int64), .long (1 : Int64)]) (rest := []) rfl rfl (Nat.le_of_ble_eq_true rfl) ⟨(Nat.le_of_ble_eq_true rfl), (Nat.le_of_ble_eq_true rfl)⟩ ⟨(Nat.le_of_ble_eq_true rfl), (Nat.le_of_ble_eq_true rfl)⟩ dX11_selling_30 (st' := [.int q5]) (σ' := (sI σ 565 0 (0 : Int32))) rfl rfl ?_
      refine g_if_ne (tgt := 38) X dX11_selling_33 (by decide) (fun c6 => ?_) (fun c6 => ?_)
      · replace h := (if_neg c6).symm.trans h
        refine g_iconst X dX11_selling_38 (v := (-1 : Int32)) ic_m1 ?_
        refine g_istore_n X dX11_selling_39 rfl (by decide) (lv' := [(3, .int (-1 : Int32)), (0, .ref (be θ + 565)), (1, .int x1), (2, .int x2)]) rfl ?_
        refine g_bipush X dX11_selling_40 (v := (41 : Int32)) bp_41 ?_
        refine g_istore X dX11_selling_42 (by decide) (lv' := [(4, .int (41 : Int32)), (3, .int (-1 : Int32)), (0, .ref (be θ + 565)), (1, .int x1), (2, .int x2)]) rfl ?_
        refine g_aload_n X dX11_selling_44 rfl 2 rfl ?_
        refine g_iload_n X dX11_selling_45 rfl 3 rfl ?_
        refine g_putI X fl_RX11_87 dX11_selling_46 kd_565 rfl rfl rfl ?_
        refine g_iconst X dX11_selling_49 (v := (0 : Int32)) ic_0 ?_
        refine g_istore X dX11_selling_50 (by decide) (lv' := [(5, .int (0 : Int32)), (4, .int (41 : Int32)), (3, .int (-1 : Int32)), (0, .ref (be θ + 565)), (1, .int x1), (2, .int x2)]) rfl ?_
        obtain ⟨q14, hq14, h⟩ := Option.bind_eq_some_iff.mp h
        refine g_sub (lv' := [(0, .ref (be θ + 565)), (1, .int x1), (2, .int x2), (3, .int (-1 : Int32)), (4, .int (41 : Int32)), (5, .int (0 : Int32))]) [3, 4, 5, 2, 1, 0] rfl (gl_Model_selling_L52 X hr hlk    FU _ q14 hq14 ?_)
        obtain ⟨τ14, w14_3, w14_4⟩ := q14
        dsimp only at h ⊢
        refine g_aload_n X dX11_selling_128 rfl 0 rfl ?_
        refine g_iconst X dX11_selling_129 (v := (-1 : Int32)) ic_m1 ?_
        refine g_putI X fl_RX11_87 dX11_selling_130 kd_565 rfl rfl rfl ?_
        refine g_iload_n X dX11_selling_133 rfl 3 rfl ?_
        refine g_iconst X dX11_selling_134 (v := (-1 : Int32)) ic_m1 ?_
        refine g_icmp_ne (tgt := 142) X dX11_selling_135 (by decide) (fun c15 => ?_) (fun c15 => ?_)
        · replace h := (if_neg c15).symm.trans h
          refine g_iload_n X dX11_selling_142 rfl 2 rfl ?_
          refine g_if_ne (tgt := 150) X dX11_selling_143 (by decide) (fun c16 => ?_) (fun c16 => ?_)
          · replace h := (if_neg c16).symm.trans h
            refine g_iload X dX11_selling_150 4 rfl ?_
            exact g_iret X hr hlk dX11_selling_152 (by cases h; rfl)
          · replace h := (if_pos c16).symm.trans h
            refine g_iload_n X dX11_selling_146 rfl 3 rfl ?_
            refine g_goto (tgt := 152) X dX11_selling_147 (by decide) ?_
            exact g_iret X hr hlk dX11_selling_152 (by cases h; rfl)
        · replace h := (if_pos c15).symm.trans h
          refine g_iconst X dX11_selling_138 (v := (-1 : Int32)) ic_m1 ?_
          refine g_goto (tgt := 152) X dX11_selling_139 (by decide) ?_
          exact g_iret X hr hlk dX11_selling_152 (by cases h; rfl)
      · replace h := (if_pos c6).symm.trans h
        refine g_iconst X dX11_selling_36 (v := (-1 : Int32)) ic_m1 ?_
        exact g_iret X hr hlk dX11_selling_37 (by cases h; rfl)
set_option maxHeartbeats 4000000 in
set_option maxRecDepth 20000 in
theorem c_Model_selling {θ : Th} {l : Launch} {σ : Mem} {x1 : Int32} {x2 : Int32} {r : Int32 × Mem}  (h : f_Model_selling σ x1 x2 = some r) : Cn θ l yX11_selling cX11_selling 7 (some .int) 66 0 0 [.ref (be θ + 565), .int x1, .int x2] σ (some (.int r.1), r.2) :=
  Cn.of (by decide) (Nat.le_of_ble_eq_true rfl) (fun p e s m below meth c X hr hlk => g_Model_selling X hr hlk  h)
theorem dX11_seen_0 : decode cX11_seen 0 = .ok (.aload_n 0, 1) := by decide +kernel
theorem dX11_seen_1 : decode cX11_seen 1 = .ok (.iconst 0, 1) := by decide +kernel
theorem dX11_seen_2 : decode cX11_seen 2 = .ok (.putfield 112, 3) := by decide +kernel
theorem dX11_seen_5 : decode cX11_seen 5 = .ok (.aload_n 0, 1) := by decide +kernel
theorem dX11_seen_6 : decode cX11_seen 6 = .ok (.getfield 310, 3) := by decide +kernel
theorem dX11_seen_9 : decode cX11_seen 9 = .ok (.ifCond .eq 36, 3) := by decide +kernel
theorem dX11_seen_12 : decode cX11_seen 12 = .ok (.iload_n 1, 1) := by decide +kernel
theorem dX11_seen_13 : decode cX11_seen 13 = .ok (.i2l, 1) := by decide +kernel
theorem dX11_seen_14 : decode cX11_seen 14 = .ok (.lconst 1, 1) := by decide +kernel
theorem dX11_seen_15 : decode cX11_seen 15 = .ok (.ldc2_w 474, 3) := by decide +kernel
theorem dX11_seen_18 : decode cX11_seen 18 = .ok (.invokestatic 233, 3) := by decide +kernel
theorem dX11_seen_21 : decode cX11_seen 21 = .ok (.ifCond .eq 24, 3) := by decide +kernel
theorem dX11_seen_24 : decode cX11_seen 24 = .ok (.iload_n 2, 1) := by decide +kernel
theorem dX11_seen_25 : decode cX11_seen 25 = .ok (.i2l, 1) := by decide +kernel
theorem dX11_seen_26 : decode cX11_seen 26 = .ok (.lconst 0, 1) := by decide +kernel
theorem dX11_seen_27 : decode cX11_seen 27 = .ok (.ldc2_w 495, 3) := by decide +kernel
theorem dX11_seen_30 : decode cX11_seen 30 = .ok (.invokestatic 233, 3) := by decide +kernel
theorem dX11_seen_33 : decode cX11_seen 33 = .ok (.ifCond .eq 12, 3) := by decide +kernel
theorem dX11_seen_36 : decode cX11_seen 36 = .ok (.aload_n 0, 1) := by decide +kernel
theorem dX11_seen_37 : decode cX11_seen 37 = .ok (.getfield 317, 3) := by decide +kernel
theorem dX11_seen_40 : decode cX11_seen 40 = .ok (.bipush 10, 2) := by decide +kernel
theorem dX11_seen_42 : decode cX11_seen 42 = .ok (.if_icmp .ne 5, 3) := by decide +kernel
theorem dX11_seen_45 : decode cX11_seen 45 = .ok (.iconst (-1), 1) := by decide +kernel
theorem dX11_seen_46 : decode cX11_seen 46 = .ok (.ireturn, 1) := by decide +kernel
theorem dX11_seen_47 : decode cX11_seen 47 = .ok (.aload_n 0, 1) := by decide +kernel
theorem dX11_seen_48 : decode cX11_seen 48 = .ok (.getfield 96, 3) := by decide +kernel
theorem dX11_seen_51 : decode cX11_seen 51 = .ok (.iconst 3, 1) := by decide +kernel
theorem dX11_seen_52 : decode cX11_seen 52 = .ok (.aload_n 0, 1) := by decide +kernel
theorem dX11_seen_53 : decode cX11_seen 53 = .ok (.getfield 317, 3) := by decide +kernel
theorem dX11_seen_56 : decode cX11_seen 56 = .ok (.imul, 1) := by decide +kernel
theorem dX11_seen_57 : decode cX11_seen 57 = .ok (.iload_n 1, 1) := by decide +kernel
theorem dX11_seen_58 : decode cX11_seen 58 = .ok (.iastore, 1) := by decide +kernel
theorem dX11_seen_59 : decode cX11_seen 59 = .ok (.aload_n 0, 1) := by decide +kernel
theorem dX11_seen_60 : decode cX11_seen 60 = .ok (.getfield 96, 3) := by decide +kernel
theorem dX11_seen_63 : decode cX11_seen 63 = .ok (.iconst 3, 1) := by decide +kernel
theorem dX11_seen_64 : decode cX11_seen 64 = .ok (.aload_n 0, 1) := by decide +kernel
theorem dX11_seen_65 : decode cX11_seen 65 = .ok (.getfield 317, 3) := by decide +kernel
theorem dX11_seen_68 : decode cX11_seen 68 = .ok (.imul, 1) := by decide +kernel
theorem dX11_seen_69 : decode cX11_seen 69 = .ok (.iconst 1, 1) := by decide +kernel
theorem dX11_seen_70 : decode cX11_seen 70 = .ok (.iadd, 1) := by decide +kernel
theorem dX11_seen_71 : decode cX11_seen 71 = .ok (.iload_n 2, 1) := by decide +kernel
theorem dX11_seen_72 : decode cX11_seen 72 = .ok (.iastore, 1) := by decide +kernel
theorem dX11_seen_73 : decode cX11_seen 73 = .ok (.aload_n 0, 1) := by decide +kernel
theorem dX11_seen_74 : decode cX11_seen 74 = .ok (.getfield 96, 3) := by decide +kernel
theorem dX11_seen_77 : decode cX11_seen 77 = .ok (.iconst 3, 1) := by decide +kernel
theorem dX11_seen_78 : decode cX11_seen 78 = .ok (.aload_n 0, 1) := by decide +kernel
theorem dX11_seen_79 : decode cX11_seen 79 = .ok (.getfield 317, 3) := by decide +kernel
theorem dX11_seen_82 : decode cX11_seen 82 = .ok (.imul, 1) := by decide +kernel
theorem dX11_seen_83 : decode cX11_seen 83 = .ok (.iconst 2, 1) := by decide +kernel
theorem dX11_seen_84 : decode cX11_seen 84 = .ok (.iadd, 1) := by decide +kernel
theorem dX11_seen_85 : decode cX11_seen 85 = .ok (.iload_n 3, 1) := by decide +kernel
theorem dX11_seen_86 : decode cX11_seen 86 = .ok (.ifCond .eq 7, 3) := by decide +kernel
theorem dX11_seen_89 : decode cX11_seen 89 = .ok (.iconst 1, 1) := by decide +kernel
theorem dX11_seen_90 : decode cX11_seen 90 = .ok (.goto 4, 3) := by decide +kernel
theorem dX11_seen_93 : decode cX11_seen 93 = .ok (.iconst 0, 1) := by decide +kernel
theorem dX11_seen_94 : decode cX11_seen 94 = .ok (.iastore, 1) := by decide +kernel
theorem dX11_seen_95 : decode cX11_seen 95 = .ok (.aload_n 0, 1) := by decide +kernel
theorem dX11_seen_96 : decode cX11_seen 96 = .ok (.dup, 1) := by decide +kernel
theorem dX11_seen_97 : decode cX11_seen 97 = .ok (.getfield 317, 3) := by decide +kernel
theorem dX11_seen_100 : decode cX11_seen 100 = .ok (.iconst 1, 1) := by decide +kernel
theorem dX11_seen_101 : decode cX11_seen 101 = .ok (.iadd, 1) := by decide +kernel
theorem dX11_seen_102 : decode cX11_seen 102 = .ok (.putfield 317, 3) := by decide +kernel
theorem dX11_seen_105 : decode cX11_seen 105 = .ok (.aload_n 0, 1) := by decide +kernel
theorem dX11_seen_106 : decode cX11_seen 106 = .ok (.getfield 317, 3) := by decide +kernel
theorem dX11_seen_109 : decode cX11_seen 109 = .ok (.ireturn, 1) := by decide +kernel
def f_Model_seen (σ : Mem) (x1 : Int32) (x2 : Int32) (x3 : Int32) : Option (Int32 × Mem) :=
  if (mI (sI σ 565 0 (0 : Int32)) 565 27) = (0 : Int32) then
    some ((-1 : Int32), (sI σ 565 0 (0 : Int32)))
  else
    (f_Model_isIn (sI σ 565 0 (0 : Int32)) ((x1).toInt64) (1 : Int64) (60 : Int64)).bind fun q2 =>
    if q2 = (0 : Int32) then
      some ((-1 : Int32), (sI σ 565 0 (0 : Int32)))
    else
      (f_Model_isIn (sI σ 565 0 (0 : Int32)) ((x2).toInt64) (0 : Int64) (999 : Int64)).bind fun q4 =>
      if q4 = (0 : Int32) then
        some ((-1 : Int32), (sI σ 565 0 (0 : Int32)))
      else
        if (mI (sI σ 565 0 (0 : Int32)) 565 51) = (10 : Int32) then
          some ((-1 : Int32), (sI σ 565 0 (0 : Int32)))
        else
          if inb ((3 : Int32) * (mI (sI σ 565 0 (0 : Int32)) 565 51)) 30 then
            if inb (((3 : Int32) * (mI (sI (sI σ 565 0 (0 : Int32)) 585 ((3 : Int32) * (mI (sI σ 565 0 (0 : Int32)) 565 51)).toNatClampNeg x1) 565 51)) + (1 : Int32)) 30 then
              if x3 = (0 : Int32) then
                if inb (((3 : Int32) * (mI (sI (sI (sI σ 565 0 (0 : Int32)) 585 ((3 : Int32) * (mI (sI σ 565 0 (0 : Int32)) 565 51)).toNatClampNeg x1) 585 (((3 : Int32) * (mI (sI (sI σ 565 0 (0 : Int32)) 585 ((3 : Int32) * (mI (sI σ 565 0 (0 : Int32)) 565 51)).toNatClampNeg x1) 565 51)) + (1 : Int32)).toNatClampNeg x2) 565 51)) + (2 : Int32)) 30 then
                  some ((mI (sI (sI (sI (sI (sI σ 565 0 (0 : Int32)) 585 ((3 : Int32) * (mI (sI σ 565 0 (0 : Int32)) 565 51)).toNatClampNeg x1) 585 (((3 : Int32) * (mI (sI (sI σ 565 0 (0 : Int32)) 585 ((3 : Int32) * (mI (sI σ 565 0 (0 : Int32)) 565 51)).toNatClampNeg x1) 565 51)) + (1 : Int32)).toNatClampNeg x2) 585 (((3 : Int32) * (mI (sI (sI (sI σ 565 0 (0 : Int32)) 585 ((3 : Int32) * (mI (sI σ 565 0 (0 : Int32)) 565 51)).toNatClampNeg x1) 585 (((3 : Int32) * (mI (sI (sI σ 565 0 (0 : Int32)) 585 ((3 : Int32) * (mI (sI σ 565 0 (0 : Int32)) 565 51)).toNatClampNeg x1) 565 51)) + (1 : Int32)).toNatClampNeg x2) 565 51)) + (2 : Int32)).toNatClampNeg (0 : Int32)) 565 51 ((mI (sI (sI (sI (sI σ 565 0 (0 : Int32)) 585 ((3 : Int32) * (mI (sI σ 565 0 (0 : Int32)) 565 51)).toNatClampNeg x1) 585 (((3 : Int32) * (mI (sI (sI σ 565 0 (0 : Int32)) 585 ((3 : Int32) * (mI (sI σ 565 0 (0 : Int32)) 565 51)).toNatClampNeg x1) 565 51)) + (1 : Int32)).toNatClampNeg x2) 585 (((3 : Int32) * (mI (sI (sI (sI σ 565 0 (0 : Int32)) 585 ((3 : Int32) * (mI (sI σ 565 0 (0 : Int32)) 565 51)).toNatClampNeg x1) 585 (((3 : Int32) * (mI (sI (sI σ 565 0 (0 : Int32)) 585 ((3 : Int32) * (mI (sI σ 565 0 (0 : Int32)) 565 51)).toNatClampNeg x1) 565 51)) + (1 : Int32)).toNatClampNeg x2) 565 51)) + (2 : Int32)).toNatClampNeg (0 : Int32)) 565 51) + (1 : Int32))) 565 51), (sI (sI (sI (sI (sI σ 565 0 (0 : Int32)) 585 ((3 : Int32) * (mI (sI σ 565 0 (0 : Int32)) 565 51)).toNatClampNeg x1) 585 (((3 : Int32) * (mI (sI (sI σ 565 0 (0 : Int32)) 585 ((3 : Int32) * (mI (sI σ 565 0 (0 : Int32)) 565 51)).toNatClampNeg x1) 565 51)) + (1 : Int32)).toNatClampNeg x2) 585 (((3 : Int32) * (mI (sI (sI (sI σ 565 0 (0 : Int32)) 585 ((3 : Int32) * (mI (sI σ 565 0 (0 : Int32)) 565 51)).toNatClampNeg x1) 585 (((3 : Int32) * (mI (sI (sI σ 565 0 (0 : Int32)) 585 ((3 : Int32) * (mI (sI σ 565 0 (0 : Int32)) 565 51)).toNatClampNeg x1) 565 51)) + (1 : Int32)).toNatClampNeg x2) 565 51)) + (2 : Int32)).toNatClampNeg (0 : Int32)) 565 51 ((mI (sI (sI (sI (sI σ 565 0 (0 : Int32)) 585 ((3 : Int32) * (mI (sI σ 565 0 (0 : Int32)) 565 51)).toNatClampNeg x1) 585 (((3 : Int32) * (mI (sI (sI σ 565 0 (0 : Int32)) 585 ((3 : Int32) * (mI (sI σ 565 0 (0 : Int32)) 565 51)).toNatClampNeg x1) 565 51)) + (1 : Int32)).toNatClampNeg x2) 585 (((3 : Int32) * (mI (sI (sI (sI σ 565 0 (0 : Int32)) 585 ((3 : Int32) * (mI (sI σ 565 0 (0 : Int32)) 565 51)).toNatClampNeg x1) 585 (((3 : Int32) * (mI (sI (sI σ 565 0 (0 : Int32)) 585 ((3 : Int32) * (mI (sI σ 565 0 (0 : Int32)) 565 51)).toNatClampNeg x1) 565 51)) + (1 : Int32)).toNatClampNeg x2) 565 51)) + (2 : Int32)).toNatClampNeg (0 : Int32)) 565 51) + (1 : Int32))))
                else none
              else
                if inb (((3 : Int32) * (mI (sI (sI (sI σ 565 0 (0 : Int32)) 585 ((3 : Int32) * (mI (sI σ 565 0 (0 : Int32)) 565 51)).toNatClampNeg x1) 585 (((3 : Int32) * (mI (sI (sI σ 565 0 (0 : Int32)) 585 ((3 : Int32) * (mI (sI σ 565 0 (0 : Int32)) 565 51)).toNatClampNeg x1) 565 51)) + (1 : Int32)).toNatClampNeg x2) 565 51)) + (2 : Int32)) 30 then
                  some ((mI (sI (sI (sI (sI (sI σ 565 0 (0 : Int32)) 585 ((3 : Int32) * (mI (sI σ 565 0 (0 : Int32)) 565 51)).toNatClampNeg x1) 585 (((3 : Int32) * (mI (sI (sI σ 565 0 (0 : Int32)) 585 ((3 : Int32) * (mI (sI σ 565 0 (0 : Int32)) 565 51)).toNatClampNeg x1) 565 51)) + (1 : Int32)).toNatClampNeg x2) 585 (((3 : Int32) * (mI (sI (sI (sI σ 565 0 (0 : Int32)) 585 ((3 : Int32) * (mI (sI σ 565 0 (0 : Int32)) 565 51)).toNatClampNeg x1) 585 (((3 : Int32) * (mI (sI (sI σ 565 0 (0 : Int32)) 585 ((3 : Int32) * (mI (sI σ 565 0 (0 : Int32)) 565 51)).toNatClampNeg x1) 565 51)) + (1 : Int32)).toNatClampNeg x2) 565 51)) + (2 : Int32)).toNatClampNeg (1 : Int32)) 565 51 ((mI (sI (sI (sI (sI σ 565 0 (0 : Int32)) 585 ((3 : Int32) * (mI (sI σ 565 0 (0 : Int32)) 565 51)).toNatClampNeg x1) 585 (((3 : Int32) * (mI (sI (sI σ 565 0 (0 : Int32)) 585 ((3 : Int32) * (mI (sI σ 565 0 (0 : Int32)) 565 51)).toNatClampNeg x1) 565 51)) + (1 : Int32)).toNatClampNeg x2) 585 (((3 : Int32) * (mI (sI (sI (sI σ 565 0 (0 : Int32)) 585 ((3 : Int32) * (mI (sI σ 565 0 (0 : Int32)) 565 51)).toNatClampNeg x1) 585 (((3 : Int32) * (mI (sI (sI σ 565 0 (0 : Int32)) 585 ((3 : Int32) * (mI (sI σ 565 0 (0 : Int32)) 565 51)).toNatClampNeg x1) 565 51)) + (1 : Int32)).toNatClampNeg x2) 565 51)) + (2 : Int32)).toNatClampNeg (1 : Int32)) 565 51) + (1 : Int32))) 565 51), (sI (sI (sI (sI (sI σ 565 0 (0 : Int32)) 585 ((3 : Int32) * (mI (sI σ 565 0 (0 : Int32)) 565 51)).toNatClampNeg x1) 585 (((3 : Int32) * (mI (sI (sI σ 565 0 (0 : Int32)) 585 ((3 : Int32) * (mI (sI σ 565 0 (0 : Int32)) 565 51)).toNatClampNeg x1) 565 51)) + (1 : Int32)).toNatClampNeg x2) 585 (((3 : Int32) * (mI (sI (sI (sI σ 565 0 (0 : Int32)) 585 ((3 : Int32) * (mI (sI σ 565 0 (0 : Int32)) 565 51)).toNatClampNeg x1) 585 (((3 : Int32) * (mI (sI (sI σ 565 0 (0 : Int32)) 585 ((3 : Int32) * (mI (sI σ 565 0 (0 : Int32)) 565 51)).toNatClampNeg x1) 565 51)) + (1 : Int32)).toNatClampNeg x2) 565 51)) + (2 : Int32)).toNatClampNeg (1 : Int32)) 565 51 ((mI (sI (sI (sI (sI σ 565 0 (0 : Int32)) 585 ((3 : Int32) * (mI (sI σ 565 0 (0 : Int32)) 565 51)).toNatClampNeg x1) 585 (((3 : Int32) * (mI (sI (sI σ 565 0 (0 : Int32)) 585 ((3 : Int32) * (mI (sI σ 565 0 (0 : Int32)) 565 51)).toNatClampNeg x1) 565 51)) + (1 : Int32)).toNatClampNeg x2) 585 (((3 : Int32) * (mI (sI (sI (sI σ 565 0 (0 : Int32)) 585 ((3 : Int32) * (mI (sI σ 565 0 (0 : Int32)) 565 51)).toNatClampNeg x1) 585 (((3 : Int32) * (mI (sI (sI σ 565 0 (0 : Int32)) 585 ((3 : Int32) * (mI (sI σ 565 0 (0 : Int32)) 565 51)).toNatClampNeg x1) 565 51)) + (1 : Int32)).toNatClampNeg x2) 565 51)) + (2 : Int32)).toNatClampNeg (1 : Int32)) 565 51) + (1 : Int32))))
                else none
            else none
          else none
set_option maxHeartbeats 4000000 in
set_option maxRecDepth 20000 in
theorem g_Model_seen (X : Cx θ p s m args c cX11_seen 4 RX11) (hr : meth.sig.returnType = some .int) (hlk : meth.locks = false)  {σ : Mem} {x1 : Int32} {x2 : Int32} {x3 : Int32} {r : Int32 × Mem}  (h : f_Model_seen σ x1 x2 x3 = some r) : GB θ p l e 1 s m args below meth c 4 (some (.int r.1), r.2) 0 [(0, .ref (be θ + 565)), (1, .int x1), (2, .int x2), (3, .int x3)] [] σ := by
  unfold f_Model_seen at h
  refine g_aload_n X dX11_seen_0 rfl 0 rfl ?_
  refine g_iconst X dX11_seen_1 (v := (0 : Int32)) ic_0 ?_
  refine g_putI X fl_RX11_112 dX11_seen_2 kd_565 rfl rfl rfl ?_
  refine g_aload_n X dX11_seen_5 rfl 0 rfl ?_
  refine g_get X fl_RX11_310 dX11_seen_6 kd_565 (v := .int (mI (sI σ 565 0 (0 : Int32)) 565 27)) rfl ?_
  refine g_if_eq (tgt := 45) X dX11_seen_9 (by decide) (fun c1 => ?_) (fun c1 => ?_)
  · replace h := (if_pos c1).symm.trans h
    refine g_iconst X dX11_seen_45 (v := (-1 : Int32)) ic_m1 ?_
    exact g_iret X hr hlk dX11_seen_46 (by cases h; rfl)
  · replace h := (if_neg c1).symm.trans h
    refine g_iload_n X dX11_seen_12 rfl 1 rfl ?_
    refine g_i2l X dX11_seen_13 (v := ((x1).toInt64)) rfl ?_
    refine g_lconst X dX11_seen_14 (v := (1 : Int64)) rfl ?_
    refine g_ldc2 X cst_RX11_474 dX11_seen_15 ?_
    obtain ⟨q2, hq2, h⟩ := Option.bind_eq_some_iff.mp h
    refine g_cS X (c_Model_isIn  hq2) lk_RX11_233 my_X11_isIn (As := [.long ((x1).toInt64), .long (1 : Int64), .long (60 : Int64)]) (rest := []) rfl rfl (Nat.le_of_ble_eq_true rfl) ⟨(Nat.le_of_ble_eq_true rfl), (Nat.le_of_ble_eq_true rfl)⟩ ⟨(Nat.le_of_ble_eq_true rfl), (Nat.le_of_ble_eq_true rfl)⟩ dX11_seen_18 (st' := [.int q2]) (σ' := (sI σ 565 0 (0 : Int32))) rfl rfl ?_
    refine g_if_eq (tgt := 45) X dX11_seen_21 (by decide) (fun c3 => ?_) (fun c3 => ?_)
    · replace h := (if_pos c3).symm.trans h
      refine g_iconst X dX11_seen_45 (v := (-1 : Int32)) ic_m1 ?_
      exact g_iret X hr hlk dX11_seen_46 (by cases h; rfl)
    · replace h := (if_neg c3).symm.trans h
      refine g_iload_n X dX11_seen_24 rfl 2 rfl ?_
      refine g_i2l X dX11_seen_25 (v := ((x2).toInt64)) rfl ?_
      refine g_lconst X dX11_seen_26 (v := (0 : Int64)) rfl ?_
      refine g_ldc2 X cst_RX11_495 dX11_seen_27 ?_
      obtain ⟨q4, hq4, h⟩ := Option.bind_eq_some_iff.mp h
      refine g_cS X (c_Model_isIn  hq4) lk_RX11_233 my_X11_isIn (As := [.long ((x2).toInt64), .long (0 : Int64), .long (999 : Int64)]) (rest := []) rfl rfl (Nat.le_of_ble_eq_true rfl) ⟨(Nat.le_of_ble_eq_true rfl), (Nat.le_of_ble_eq_true rfl)⟩ ⟨(Nat.le_of_ble_eq_true rfl), (Nat.le_of_ble_eq_true rfl)⟩ dX11_seen_30 (st' := [.int q4]) (σ' := (sI σ 565 0 (0 : Int32))) rfl rfl ?_
      refine g_if_eq (tgt := 45) X dX11_seen_33 (by decide) (fun c5 => ?_) (fun c5 => ?_)
      · replace h := (if_pos c5).symm.trans h
        refine g_iconst X dX11_seen_45 (v := (-1 : Int32)) ic_m1 ?_
        exact g_iret X hr hlk dX11_seen_46 (by cases h; rfl)
      · replace h := (if_neg c5).symm.trans h
        refine g_aload_n X dX11_seen_36 rfl 0 rfl ?_
        refine g_get X fl_RX11_317 dX11_seen_37 kd_565 (v := .int (mI (sI σ 565 0 (0 : Int32)) 565 51)) rfl ?_
        refine g_bipush X dX11_seen_40 (v := (10 : Int32)) bp_10 ?_
        refine g_icmp_ne (tgt := 47) X dX11_seen_42 (by decide) (fun c6 => ?_) (fun c6 => ?_)
        · replace h := (if_neg c6).symm.trans h
          refine g_aload_n X dX11_seen_47 rfl 0 rfl ?_
          refine g_get X fl_RX11_96 dX11_seen_48 kd_565 (v := .ref (be θ + 585)) rfl ?_
          refine g_iconst X dX11_seen_51 (v := (3 : Int32)) ic_3 ?_
          refine g_aload_n X dX11_seen_52 rfl 0 rfl ?_
          refine g_get X fl_RX11_317 dX11_seen_53 kd_565 (v := .int (mI (sI σ 565 0 (0 : Int32)) 565 51)) rfl ?_
          refine g_imul X dX11_seen_56 ?_
          refine g_iload_n X dX11_seen_57 rfl 1 rfl ?_
          obtain ⟨g7, h⟩ := ite_some h
          refine g_iast X kd_585 ln_585 (inb_in g7) dX11_seen_58 ?_
          refine g_aload_n X dX11_seen_59 rfl 0 rfl ?_
          refine g_get X fl_RX11_96 dX11_seen_60 kd_565 (v := .ref (be θ + 585)) rfl ?_
          refine g_iconst X dX11_seen_63 (v := (3 : Int32)) ic_3 ?_
          refine g_aload_n X dX11_seen_64 rfl 0 rfl ?_
          refine g_get X fl_RX11_317 dX11_seen_65 kd_565 (v := .int (mI (sI (sI σ 565 0 (0 : Int32)) 585 ((3 : Int32) * (mI (sI σ 565 0 (0 : Int32)) 565 51)).toNatClampNeg x1) 565 51)) rfl ?_
          refine g_imul X dX11_seen_68 ?_
          refine g_iconst X dX11_seen_69 (v := (1 : Int32)) ic_1 ?_
          refine g_iadd X dX11_seen_70 ?_
          refine g_iload_n X dX11_seen_71 rfl 2 rfl ?_
          obtain ⟨g8, h⟩ := ite_some h
          refine g_iast X kd_585 ln_585 (inb_in g8) dX11_seen_72 ?_
          refine g_aload_n X dX11_seen_73 rfl 0 rfl ?_
          refine g_get X fl_RX11_96 dX11_seen_74 kd_565 (v := .ref (be θ + 585)) rfl ?_
          refine g_iconst X dX11_seen_77 (v := (3 : Int32)) ic_3 ?_
          refine g_aload_n X dX11_seen_78 rfl 0 rfl ?_
          refine g_get X fl_RX11_317 dX11_seen_79 kd_565 (v := .int (mI (sI (sI (sI σ 565 0 (0 : Int32)) 585 ((3 : Int32) * (mI (sI σ 565 0 (0 : Int32)) 565 51)).toNatClampNeg x1) 585 (((3 : Int32) * (mI (sI (sI σ 565 0 (0 : Int32)) 585 ((3 : Int32) * (mI (sI σ 565 0 (0 : Int32)) 565 51)).toNatClampNeg x1) 565 51)) + (1 : Int32)).toNatClampNeg x2) 565 51)) rfl ?_
          refine g_imul X dX11_seen_82 ?_
          refine g_iconst X dX11_seen_83 (v := (2 : Int32)) ic_2 ?_
          refine g_iadd X dX11_seen_84 ?_
          refine g_iload_n X dX11_seen_85 rfl 3 rfl ?_
          refine g_if_eq (tgt := 93) X dX11_seen_86 (by decide) (fun c9 => ?_) (fun c9 => ?_)
          · replace h := (if_pos c9).symm.trans h
            refine g_iconst X dX11_seen_93 (v := (0 : Int32)) ic_0 ?_
            obtain ⟨g10, h⟩ := ite_some h
            refine g_iast X kd_585 ln_585 (inb_in g10) dX11_seen_94 ?_
            refine g_aload_n X dX11_seen_95 rfl 0 rfl ?_
            refine g_dup X dX11_seen_96 rfl ?_
            refine g_get X fl_RX11_317 dX11_seen_97 kd_565 (v := .int (mI (sI (sI (sI (sI σ 565 0 (0 : Int32)) 585 ((3 : Int32) * (mI (sI σ 565 0 (0 : Int32)) 565 51)).toNatClampNeg x1) 585 (((3 : Int32) * (mI (sI (sI σ 565 0 (0 : Int32)) 585 ((3 : Int32) * (mI (sI σ 565 0 (0 : Int32)) 565 51)).toNatClampNeg x1) 565 51)) + (1 : Int32)).toNatClampNeg x2) 585 (((3 : Int32) * (mI (sI (sI (sI σ 565 0 (0 : Int32)) 585 ((3 : Int32) * (mI (sI σ 565 0 (0 : Int32)) 565 51)).toNatClampNeg x1) 585 (((3 : Int32) * (mI (sI (sI σ 565 0 (0 : Int32)) 585 ((3 : Int32) * (mI (sI σ 565 0 (0 : Int32)) 565 51)).toNatClampNeg x1) 565 51)) + (1 : Int32)).toNatClampNeg x2) 565 51)) + (2 : Int32)).toNatClampNeg (0 : Int32)) 565 51)) rfl ?_
            refine g_iconst X dX11_seen_100 (v := (1 : Int32)) ic_1 ?_
            refine g_iadd X dX11_seen_101 ?_
            refine g_putI X fl_RX11_317 dX11_seen_102 kd_565 rfl rfl rfl ?_
            refine g_aload_n X dX11_seen_105 rfl 0 rfl ?_
            refine g_get X fl_RX11_317 dX11_seen_106 kd_565 (v := .int (mI (sI (sI (sI (sI (sI σ 565 0 (0 : Int32)) 585 ((3 : Int32) * (mI (sI σ 565 0 (0 : Int32)) 565 51)).toNatClampNeg x1) 585 (((3 : Int32) * (mI (sI (sI σ 565 0 (0 : Int32)) 585 ((3 : Int32) * (mI (sI σ 565 0 (0 : Int32)) 565 51)).toNatClampNeg x1) 565 51)) + (1 : Int32)).toNatClampNeg x2) 585 (((3 : Int32) * (mI (sI (sI (sI σ 565 0 (0 : Int32)) 585 ((3 : Int32) * (mI (sI σ 565 0 (0 : Int32)) 565 51)).toNatClampNeg x1) 585 (((3 : Int32) * (mI (sI (sI σ 565 0 (0 : Int32)) 585 ((3 : Int32) * (mI (sI σ 565 0 (0 : Int32)) 565 51)).toNatClampNeg x1) 565 51)) + (1 : Int32)).toNatClampNeg x2) 565 51)) + (2 : Int32)).toNatClampNeg (0 : Int32)) 565 51 ((mI (sI (sI (sI (sI σ 565 0 (0 : Int32)) 585 ((3 : Int32) * (mI (sI σ 565 0 (0 : Int32)) 565 51)).toNatClampNeg x1) 585 (((3 : Int32) * (mI (sI (sI σ 565 0 (0 : Int32)) 585 ((3 : Int32) * (mI (sI σ 565 0 (0 : Int32)) 565 51)).toNatClampNeg x1) 565 51)) + (1 : Int32)).toNatClampNeg x2) 585 (((3 : Int32) * (mI (sI (sI (sI σ 565 0 (0 : Int32)) 585 ((3 : Int32) * (mI (sI σ 565 0 (0 : Int32)) 565 51)).toNatClampNeg x1) 585 (((3 : Int32) * (mI (sI (sI σ 565 0 (0 : Int32)) 585 ((3 : Int32) * (mI (sI σ 565 0 (0 : Int32)) 565 51)).toNatClampNeg x1) 565 51)) + (1 : Int32)).toNatClampNeg x2) 565 51)) + (2 : Int32)).toNatClampNeg (0 : Int32)) 565 51) + (1 : Int32))) 565 51)) rfl ?_
            exact g_iret X hr hlk dX11_seen_109 (by cases h; rfl)
          · replace h := (if_neg c9).symm.trans h
            refine g_iconst X dX11_seen_89 (v := (1 : Int32)) ic_1 ?_
            refine g_goto (tgt := 94) X dX11_seen_90 (by decide) ?_
            obtain ⟨g11, h⟩ := ite_some h
            refine g_iast X kd_585 ln_585 (inb_in g11) dX11_seen_94 ?_
            refine g_aload_n X dX11_seen_95 rfl 0 rfl ?_
            refine g_dup X dX11_seen_96 rfl ?_
            refine g_get X fl_RX11_317 dX11_seen_97 kd_565 (v := .int (mI (sI (sI (sI (sI σ 565 0 (0 : Int32)) 585 ((3 : Int32) * (mI (sI σ 565 0 (0 : Int32)) 565 51)).toNatClampNeg x1) 585 (((3 : Int32) * (mI (sI (sI σ 565 0 (0 : Int32)) 585 ((3 : Int32) * (mI (sI σ 565 0 (0 : Int32)) 565 51)).toNatClampNeg x1) 565 51)) + (1 : Int32)).toNatClampNeg x2) 585 (((3 : Int32) * (mI (sI (sI (sI σ 565 0 (0 : Int32)) 585 ((3 : Int32) * (mI (sI σ 565 0 (0 : Int32)) 565 51)).toNatClampNeg x1) 585 (((3 : Int32) * (mI (sI (sI σ 565 0 (0 : Int32)) 585 ((3 : Int32) * (mI (sI σ 565 0 (0 : Int32)) 565 51)).toNatClampNeg x1) 565 51)) + (1 : Int32)).toNatClampNeg x2) 565 51)) + (2 : Int32)).toNatClampNeg (1 : Int32)) 565 51)) rfl ?_
            refine g_iconst X dX11_seen_100 (v := (1 : Int32)) ic_1 ?_
            refine g_iadd X dX11_seen_101 ?_
            refine g_putI X fl_RX11_317 dX11_seen_102 kd_565 rfl rfl rfl ?_
            refine g_aload_n X dX11_seen_105 rfl 0 rfl ?_
            refine g_get X fl_RX11_317 dX11_seen_106 kd_565 (v := .int (mI (sI (sI (sI (sI (sI σ 565 0 (0 : Int32)) 585 ((3 : Int32) * (mI (sI σ 565 0 (0 : Int32)) 565 51)).toNatClampNeg x1) 585 (((3 : Int32) * (mI (sI (sI σ 565 0 (0 : Int32)) 585 ((3 : Int32) * (mI (sI σ 565 0 (0 : Int32)) 565 51)).toNatClampNeg x1) 565 51)) + (1 : Int32)).toNatClampNeg x2) 585 (((3 : Int32) * (mI (sI (sI (sI σ 565 0 (0 : Int32)) 585 ((3 : Int32) * (mI (sI σ 565 0 (0 : Int32)) 565 51)).toNatClampNeg x1) 585 (((3 : Int32) * (mI (sI (sI σ 565 0 (0 : Int32)) 585 ((3 : Int32) * (mI (sI σ 565 0 (0 : Int32)) 565 51)).toNatClampNeg x1) 565 51)) + (1 : Int32)).toNatClampNeg x2) 565 51)) + (2 : Int32)).toNatClampNeg (1 : Int32)) 565 51 ((mI (sI (sI (sI (sI σ 565 0 (0 : Int32)) 585 ((3 : Int32) * (mI (sI σ 565 0 (0 : Int32)) 565 51)).toNatClampNeg x1) 585 (((3 : Int32) * (mI (sI (sI σ 565 0 (0 : Int32)) 585 ((3 : Int32) * (mI (sI σ 565 0 (0 : Int32)) 565 51)).toNatClampNeg x1) 565 51)) + (1 : Int32)).toNatClampNeg x2) 585 (((3 : Int32) * (mI (sI (sI (sI σ 565 0 (0 : Int32)) 585 ((3 : Int32) * (mI (sI σ 565 0 (0 : Int32)) 565 51)).toNatClampNeg x1) 585 (((3 : Int32) * (mI (sI (sI σ 565 0 (0 : Int32)) 585 ((3 : Int32) * (mI (sI σ 565 0 (0 : Int32)) 565 51)).toNatClampNeg x1) 565 51)) + (1 : Int32)).toNatClampNeg x2) 565 51)) + (2 : Int32)).toNatClampNeg (1 : Int32)) 565 51) + (1 : Int32))) 565 51)) rfl ?_
            exact g_iret X hr hlk dX11_seen_109 (by cases h; rfl)
        · replace h := (if_pos c6).symm.trans h
          refine g_iconst X dX11_seen_45 (v := (-1 : Int32)) ic_m1 ?_
          exact g_iret X hr hlk dX11_seen_46 (by cases h; rfl)
set_option maxHeartbeats 4000000 in
set_option maxRecDepth 20000 in
theorem c_Model_seen {θ : Th} {l : Launch} {σ : Mem} {x1 : Int32} {x2 : Int32} {x3 : Int32} {r : Int32 × Mem}  (h : f_Model_seen σ x1 x2 x3 = some r) : Cn θ l yX11_seen cX11_seen 4 (some .int) 1 0 0 [.ref (be θ + 565), .int x1, .int x2, .int x3] σ (some (.int r.1), r.2) :=
  Cn.of (by decide) (Nat.le_of_ble_eq_true rfl) (fun p e s m below meth c X hr hlk => g_Model_seen X hr hlk  h)
theorem dX11_laysDesires_0 : decode cX11_laysDesires 0 = .ok (.iconst 0, 1) := by decide +kernel
theorem dX11_laysDesires_1 : decode cX11_laysDesires 1 = .ok (.istore_n 2, 1) := by decide +kernel
theorem dX11_laysDesires_2 : decode cX11_laysDesires 2 = .ok (.aload_n 0, 1) := by decide +kernel
theorem dX11_laysDesires_3 : decode cX11_laysDesires 3 = .ok (.iload_n 1, 1) := by decide +kernel
theorem dX11_laysDesires_4 : decode cX11_laysDesires 4 = .ok (.putfield 84, 3) := by decide +kernel
theorem dX11_laysDesires_7 : decode cX11_laysDesires 7 = .ok (.iconst 0, 1) := by decide +kernel
theorem dX11_laysDesires_8 : decode cX11_laysDesires 8 = .ok (.istore_n 3, 1) := by decide +kernel
theorem dX11_laysDesires_9 : decode cX11_laysDesires 9 = .ok (.iload_n 3, 1) := by decide +kernel
theorem dX11_laysDesires_10 : decode cX11_laysDesires 10 = .ok (.bipush 9, 2) := by decide +kernel
theorem dX11_laysDesires_12 : decode cX11_laysDesires 12 = .ok (.if_icmp .gt 193, 3) := by decide +kernel
theorem dX11_laysDesires_15 : decode cX11_laysDesires 15 = .ok (.aload_n 0, 1) := by decide +kernel
theorem dX11_laysDesires_16 : decode cX11_laysDesires 16 = .ok (.iload_n 3, 1) := by decide +kernel
theorem dX11_laysDesires_17 : decode cX11_laysDesires 17 = .ok (.putfield 329, 3) := by decide +kernel
theorem dX11_laysDesires_20 : decode cX11_laysDesires 20 = .ok (.aload_n 0, 1) := by decide +kernel
theorem dX11_laysDesires_21 : decode cX11_laysDesires 21 = .ok (.aload_n 0, 1) := by decide +kernel
theorem dX11_laysDesires_22 : decode cX11_laysDesires 22 = .ok (.getfield 64, 3) := by decide +kernel
theorem dX11_laysDesires_25 : decode cX11_laysDesires 25 = .ok (.invokevirtual 313, 3) := by decide +kernel
theorem dX11_laysDesires_28 : decode cX11_laysDesires 28 = .ok (.iconst 1, 1) := by decide +kernel
theorem dX11_laysDesires_29 : decode cX11_laysDesires 29 = .ok (.istore 4, 2) := by decide +kernel
theorem dX11_laysDesires_31 : decode cX11_laysDesires 31 = .ok (.iload 4, 2) := by decide +kernel
theorem dX11_laysDesires_33 : decode cX11_laysDesires 33 = .ok (.bipush 60, 2) := by decide +kernel
theorem dX11_laysDesires_35 : decode cX11_laysDesires 35 = .ok (.if_icmp .gt 45, 3) := by decide +kernel
theorem dX11_laysDesires_38 : decode cX11_laysDesires 38 = .ok (.aload_n 0, 1) := by decide +kernel
theorem dX11_laysDesires_39 : decode cX11_laysDesires 39 = .ok (.aload_n 0, 1) := by decide +kernel
theorem dX11_laysDesires_40 : decode cX11_laysDesires 40 = .ok (.getfield 64, 3) := by decide +kernel
theorem dX11_laysDesires_43 : decode cX11_laysDesires 43 = .ok (.invokevirtual 402, 3) := by decide +kernel
theorem dX11_laysDesires_46 : decode cX11_laysDesires 46 = .ok (.aload_n 0, 1) := by decide +kernel
theorem dX11_laysDesires_47 : decode cX11_laysDesires 47 = .ok (.getfield 99, 3) := by decide +kernel
theorem dX11_laysDesires_50 : decode cX11_laysDesires 50 = .ok (.bipush 61, 2) := by decide +kernel
theorem dX11_laysDesires_52 : decode cX11_laysDesires 52 = .ok (.iload_n 3, 1) := by decide +kernel
theorem dX11_laysDesires_53 : decode cX11_laysDesires 53 = .ok (.imul, 1) := by decide +kernel
theorem dX11_laysDesires_54 : decode cX11_laysDesires 54 = .ok (.iload 4, 2) := by decide +kernel
theorem dX11_laysDesires_56 : decode cX11_laysDesires 56 = .ok (.iadd, 1) := by decide +kernel
theorem dX11_laysDesires_57 : decode cX11_laysDesires 57 = .ok (.aload_n 0, 1) := by decide +kernel
theorem dX11_laysDesires_58 : decode cX11_laysDesires 58 = .ok (.getfield 64, 3) := by decide +kernel
theorem dX11_laysDesires_61 : decode cX11_laysDesires 61 = .ok (.sipush 129, 3) := by decide +kernel
theorem dX11_laysDesires_64 : decode cX11_laysDesires 64 = .ok (.iaload, 1) := by decide +kernel
theorem dX11_laysDesires_65 : decode cX11_laysDesires 65 = .ok (.aload_n 0, 1) := by decide +kernel
theorem dX11_laysDesires_66 : decode cX11_laysDesires 66 = .ok (.getfield 64, 3) := by decide +kernel
theorem dX11_laysDesires_69 : decode cX11_laysDesires 69 = .ok (.invokestatic 471, 3) := by decide +kernel
theorem dX11_laysDesires_72 : decode cX11_laysDesires 72 = .ok (.iadd, 1) := by decide +kernel
theorem dX11_laysDesires_73 : decode cX11_laysDesires 73 = .ok (.iastore, 1) := by decide +kernel
theorem dX11_laysDesires_74 : decode cX11_laysDesires 74 = .ok (.iinc 4 1, 3) := by decide +kernel
theorem dX11_laysDesires_77 : decode cX11_laysDesires 77 = .ok (.goto (-46), 3) := by decide +kernel
theorem dX11_laysDesires_80 : decode cX11_laysDesires 80 = .ok (.aload_n 0, 1) := by decide +kernel
theorem dX11_laysDesires_81 : decode cX11_laysDesires 81 = .ok (.getfield 102, 3) := by decide +kernel
theorem dX11_laysDesires_84 : decode cX11_laysDesires 84 = .ok (.iload_n 3, 1) := by decide +kernel
theorem dX11_laysDesires_85 : decode cX11_laysDesires 85 = .ok (.iconst 1, 1) := by decide +kernel
theorem dX11_laysDesires_86 : decode cX11_laysDesires 86 = .ok (.bastore, 1) := by decide +kernel
theorem dX11_laysDesires_87 : decode cX11_laysDesires 87 = .ok (.iconst 0, 1) := by decide +kernel
theorem dX11_laysDesires_88 : decode cX11_laysDesires 88 = .ok (.istore 4, 2) := by decide +kernel
theorem dX11_laysDesires_90 : decode cX11_laysDesires 90 = .ok (.iload 4, 2) := by decide +kernel
theorem dX11_laysDesires_92 : decode cX11_laysDesires 92 = .ok (.iconst 3, 1) := by decide +kernel
theorem dX11_laysDesires_93 : decode cX11_laysDesires 93 = .ok (.aload_n 0, 1) := by decide +kernel
theorem dX11_laysDesires_94 : decode cX11_laysDesires 94 = .ok (.getfield 317, 3) := by decide +kernel
theorem dX11_laysDesires_97 : decode cX11_laysDesires 97 = .ok (.imul, 1) := by decide +kernel
theorem dX11_laysDesires_98 : decode cX11_laysDesires 98 = .ok (.if_icmp .ge 84, 3) := by decide +kernel
theorem dX11_laysDesires_101 : decode cX11_laysDesires 101 = .ok (.aload_n 0, 1) := by decide +kernel
theorem dX11_laysDesires_102 : decode cX11_laysDesires 102 = .ok (.getfield 102, 3) := by decide +kernel
theorem dX11_laysDesires_105 : decode cX11_laysDesires 105 = .ok (.iload_n 3, 1) := by decide +kernel
theorem dX11_laysDesires_106 : decode cX11_laysDesires 106 = .ok (.aload_n 0, 1) := by decide +kernel
theorem dX11_laysDesires_107 : decode cX11_laysDesires 107 = .ok (.getfield 102, 3) := by decide +kernel
theorem dX11_laysDesires_110 : decode cX11_laysDesires 110 = .ok (.iload_n 3, 1) := by decide +kernel
theorem dX11_laysDesires_111 : decode cX11_laysDesires 111 = .ok (.baload, 1) := by decide +kernel
theorem dX11_laysDesires_112 : decode cX11_laysDesires 112 = .ok (.ifCond .eq 62, 3) := by decide +kernel
theorem dX11_laysDesires_115 : decode cX11_laysDesires 115 = .ok (.aload_n 0, 1) := by decide +kernel
theorem dX11_laysDesires_116 : decode cX11_laysDesires 116 = .ok (.getfield 99, 3) := by decide +kernel
theorem dX11_laysDesires_119 : decode cX11_laysDesires 119 = .ok (.bipush 61, 2) := by decide +kernel
theorem dX11_laysDesires_121 : decode cX11_laysDesires 121 = .ok (.iload_n 3, 1) := by decide +kernel
theorem dX11_laysDesires_122 : decode cX11_laysDesires 122 = .ok (.imul, 1) := by decide +kernel
theorem dX11_laysDesires_123 : decode cX11_laysDesires 123 = .ok (.aload_n 0, 1) := by decide +kernel
theorem dX11_laysDesires_124 : decode cX11_laysDesires 124 = .ok (.getfield 96, 3) := by decide +kernel
theorem dX11_laysDesires_127 : decode cX11_laysDesires 127 = .ok (.iload 4, 2) := by decide +kernel
theorem dX11_laysDesires_129 : decode cX11_laysDesires 129 = .ok (.iaload, 1) := by decide +kernel
theorem dX11_laysDesires_130 : decode cX11_laysDesires 130 = .ok (.iadd, 1) := by decide +kernel
theorem dX11_laysDesires_131 : decode cX11_laysDesires 131 = .ok (.iaload, 1) := by decide +kernel
theorem dX11_laysDesires_132 : decode cX11_laysDesires 132 = .ok (.aload_n 0, 1) := by decide +kernel
theorem dX11_laysDesires_133 : decode cX11_laysDesires 133 = .ok (.getfield 96, 3) := by decide +kernel
theorem dX11_laysDesires_136 : decode cX11_laysDesires 136 = .ok (.iload 4, 2) := by decide +kernel
theorem dX11_laysDesires_138 : decode cX11_laysDesires 138 = .ok (.iconst 1, 1) := by decide +kernel
theorem dX11_laysDesires_139 : decode cX11_laysDesires 139 = .ok (.iadd, 1) := by decide +kernel
theorem dX11_laysDesires_140 : decode cX11_laysDesires 140 = .ok (.iaload, 1) := by decide +kernel
theorem dX11_laysDesires_141 : decode cX11_laysDesires 141 = .ok (.if_icmp .lt 7, 3) := by decide +kernel
theorem dX11_laysDesires_144 : decode cX11_laysDesires 144 = .ok (.iconst 1, 1) := by decide +kernel
theorem dX11_laysDesires_145 : decode cX11_laysDesires 145 = .ok (.goto 4, 3) := by decide +kernel
theorem dX11_laysDesires_148 : decode cX11_laysDesires 148 = .ok (.iconst 0, 1) := by decide +kernel
theorem dX11_laysDesires_149 : decode cX11_laysDesires 149 = .ok (.aload_n 0, 1) := by decide +kernel
theorem dX11_laysDesires_150 : decode cX11_laysDesires 150 = .ok (.getfield 96, 3) := by decide +kernel
theorem dX11_laysDesires_153 : decode cX11_laysDesires 153 = .ok (.iload 4, 2) := by decide +kernel
theorem dX11_laysDesires_155 : decode cX11_laysDesires 155 = .ok (.iconst 2, 1) := by decide +kernel
theorem dX11_laysDesires_156 : decode cX11_laysDesires 156 = .ok (.iadd, 1) := by decide +kernel
theorem dX11_laysDesires_157 : decode cX11_laysDesires 157 = .ok (.iaload, 1) := by decide +kernel
theorem dX11_laysDesires_158 : decode cX11_laysDesires 158 = .ok (.iconst 1, 1) := by decide +kernel
theorem dX11_laysDesires_159 : decode cX11_laysDesires 159 = .ok (.if_icmp .ne 7, 3) := by decide +kernel
theorem dX11_laysDesires_162 : decode cX11_laysDesires 162 = .ok (.iconst 1, 1) := by decide +kernel
theorem dX11_laysDesires_163 : decode cX11_laysDesires 163 = .ok (.goto 4, 3) := by decide +kernel
theorem dX11_laysDesires_166 : decode cX11_laysDesires 166 = .ok (.iconst 0, 1) := by decide +kernel
theorem dX11_laysDesires_167 : decode cX11_laysDesires 167 = .ok (.if_icmp .ne 7, 3) := by decide +kernel
theorem dX11_laysDesires_170 : decode cX11_laysDesires 170 = .ok (.iconst 1, 1) := by decide +kernel
theorem dX11_laysDesires_171 : decode cX11_laysDesires 171 = .ok (.goto 4, 3) := by decide +kernel
theorem dX11_laysDesires_174 : decode cX11_laysDesires 174 = .ok (.iconst 0, 1) := by decide +kernel
theorem dX11_laysDesires_175 : decode cX11_laysDesires 175 = .ok (.bastore, 1) := by decide +kernel
theorem dX11_laysDesires_176 : decode cX11_laysDesires 176 = .ok (.iinc 4 3, 3) := by decide +kernel
theorem dX11_laysDesires_179 : decode cX11_laysDesires 179 = .ok (.goto (-89), 3) := by decide +kernel
theorem dX11_laysDesires_182 : decode cX11_laysDesires 182 = .ok (.iload_n 2, 1) := by decide +kernel
theorem dX11_laysDesires_183 : decode cX11_laysDesires 183 = .ok (.aload_n 0, 1) := by decide +kernel
theorem dX11_laysDesires_184 : decode cX11_laysDesires 184 = .ok (.getfield 102, 3) := by decide +kernel
theorem dX11_laysDesires_187 : decode cX11_laysDesires 187 = .ok (.iload_n 3, 1) := by decide +kernel
theorem dX11_laysDesires_188 : decode cX11_laysDesires 188 = .ok (.baload, 1) := by decide +kernel
theorem dX11_laysDesires_189 : decode cX11_laysDesires 189 = .ok (.ifCond .eq 7, 3) := by decide +kernel
theorem dX11_laysDesires_192 : decode cX11_laysDesires 192 = .ok (.iconst 1, 1) := by decide +kernel
theorem dX11_laysDesires_193 : decode cX11_laysDesires 193 = .ok (.goto 4, 3) := by decide +kernel
theorem dX11_laysDesires_196 : decode cX11_laysDesires 196 = .ok (.iconst 0, 1) := by decide +kernel
theorem dX11_laysDesires_197 : decode cX11_laysDesires 197 = .ok (.iadd, 1) := by decide +kernel
theorem dX11_laysDesires_198 : decode cX11_laysDesires 198 = .ok (.istore_n 2, 1) := by decide +kernel
theorem dX11_laysDesires_199 : decode cX11_laysDesires 199 = .ok (.iinc 3 1, 3) := by decide +kernel
theorem dX11_laysDesires_202 : decode cX11_laysDesires 202 = .ok (.goto (-193), 3) := by decide +kernel
theorem dX11_laysDesires_205 : decode cX11_laysDesires 205 = .ok (.aload_n 0, 1) := by decide +kernel
theorem dX11_laysDesires_206 : decode cX11_laysDesires 206 = .ok (.iconst (-1), 1) := by decide +kernel
theorem dX11_laysDesires_207 : decode cX11_laysDesires 207 = .ok (.putfield 84, 3) := by decide +kernel
theorem dX11_laysDesires_210 : decode cX11_laysDesires 210 = .ok (.iload_n 2, 1) := by decide +kernel
theorem dX11_laysDesires_211 : decode cX11_laysDesires 211 = .ok (.ireturn, 1) := by decide +kernel
def f_Model_laysDesires_L31 (x1 : Int32) (y2 : Int32) (y3 : Int32) (a : Mem × Int32) : Option ((Mem × Int32) ⊕ (Mem)) :=
  @Prod.casesOn (Mem) (Int32) (fun _ => Option ((Mem × Int32) ⊕ (Mem))) a fun τ z4 =>
  if (60 : Int32) < z4 then
    some (.inr τ)
  else
    (f_Model_passes τ 579).bind fun q4 =>
    (f_Model_allDue q4 579).bind fun q5 =>
    if inb (((61 : Int32) * y3) + z4) 610 then
      some (.inl ((sI q4 586 (((61 : Int32) * y3) + z4).toNatClampNeg ((mI q4 579 (129 : Int32).toNatClampNeg) + q5)), (z4 + (1 : Int32))))
    else none
def f_Model_laysDesires_L90 (x1 : Int32) (y2 : Int32) (y3 : Int32) (a : Mem × Int32) : Option ((Mem × Int32) ⊕ (Mem)) :=
  @Prod.casesOn (Mem) (Int32) (fun _ => Option ((Mem × Int32) ⊕ (Mem))) a fun τ z4 =>
  if ((3 : Int32) * (mI τ 565 51)) ≤ z4 then
    some (.inr τ)
  else
    if inb y3 10 then
      if (mI τ 587 y3.toNatClampNeg) = (0 : Int32) then
        some (.inl ((sI τ 587 y3.toNatClampNeg (vp_nar .boolean (0 : Int32))), (z4 + (3 : Int32))))
      else
        if inb z4 30 then
          if inb (((61 : Int32) * y3) + (mI τ 585 z4.toNatClampNeg)) 610 then
            if inb (z4 + (1 : Int32)) 30 then
              if (mI τ 586 (((61 : Int32) * y3) + (mI τ 585 z4.toNatClampNeg)).toNatClampNeg) < (mI τ 585 (z4 + (1 : Int32)).toNatClampNeg) then
                if inb (z4 + (2 : Int32)) 30 then
                  if (mI τ 585 (z4 + (2 : Int32)).toNatClampNeg) = (1 : Int32) then
                    if (0 : Int32) = (1 : Int32) then
                      some (.inl ((sI τ 587 y3.toNatClampNeg (vp_nar .boolean (1 : Int32))), (z4 + (3 : Int32))))
                    else
                      some (.inl ((sI τ 587 y3.toNatClampNeg (vp_nar .boolean (0 : Int32))), (z4 + (3 : Int32))))
                  else
                    if (0 : Int32) = (0 : Int32) then
                      some (.inl ((sI τ 587 y3.toNatClampNeg (vp_nar .boolean (1 : Int32))), (z4 + (3 : Int32))))
                    else
                      some (.inl ((sI τ 587 y3.toNatClampNeg (vp_nar .boolean (0 : Int32))), (z4 + (3 : Int32))))
                else none
              else
                if inb (z4 + (2 : Int32)) 30 then
                  if (mI τ 585 (z4 + (2 : Int32)).toNatClampNeg) = (1 : Int32) then
                    if (1 : Int32) = (1 : Int32) then
                      some (.inl ((sI τ 587 y3.toNatClampNeg (vp_nar .boolean (1 : Int32))), (z4 + (3 : Int32))))
                    else
                      some (.inl ((sI τ 587 y3.toNatClampNeg (vp_nar .boolean (0 : Int32))), (z4 + (3 : Int32))))
                  else
                    if (1 : Int32) = (0 : Int32) then
                      some (.inl ((sI τ 587 y3.toNatClampNeg (vp_nar .boolean (1 : Int32))), (z4 + (3 : Int32))))
                    else
                      some (.inl ((sI τ 587 y3.toNatClampNeg (vp_nar .boolean (0 : Int32))), (z4 + (3 : Int32))))
                else none
            else none
          else none
        else none
    else none
def f_Model_laysDesires_L9 (x1 : Int32) (a : Mem × Int32 × Int32) : Option ((Mem × Int32 × Int32) ⊕ (Int32 × Mem)) :=
  @Prod.casesOn (Mem) (Int32 × Int32) (fun _ => Option ((Mem × Int32 × Int32) ⊕ (Int32 × Mem))) a fun τ b0 =>
  @Prod.casesOn (Int32) (Int32) (fun _ => Option ((Mem × Int32 × Int32) ⊕ (Int32 × Mem))) b0 fun z2 z3 =>
  if (9 : Int32) < z3 then
    some (.inr (z2, (sI τ 565 39 (-1 : Int32))))
  else
    (f_Model_lays (sI τ 565 40 z3) 579).bind fun q2 =>
    (loopF (f_Model_laysDesires_L31 x1 z2 z3) FU (q2, (1 : Int32))).bind fun w7 =>
    if inb z3 10 then
      (loopF (f_Model_laysDesires_L90 x1 z2 z3) FU ((sI w7 587 z3.toNatClampNeg (vp_nar .boolean (1 : Int32))), (0 : Int32))).bind fun w24 =>
      if (mI w24 587 z3.toNatClampNeg) = (0 : Int32) then
        some (.inl (w24, (z2 + (0 : Int32)), (z3 + (1 : Int32))))
      else
        some (.inl (w24, (z2 + (1 : Int32)), (z3 + (1 : Int32))))
    else none
def f_Model_laysDesires (σ : Mem) (x1 : Int32) : Option (Int32 × Mem) :=
  loopF (f_Model_laysDesires_L9 x1) FU ((sI σ 565 39 x1), (0 : Int32), (0 : Int32))
set_option maxHeartbeats 4000000 in
set_option maxRecDepth 20000 in
theorem gs_Model_laysDesires_L31 (X : Cx θ p s m args c cX11_laysDesires 5 RX11) (hr : meth.sig.returnType = some .int) (hlk : meth.locks = false)  {x1 : Int32} {y2 : Int32} {y3 : Int32} {r : Int32 × Mem}  (τ : Mem) (z4 : Int32) (x : (Mem × Int32) ⊕ (Mem)) (h : f_Model_laysDesires_L31 x1 y2 y3 (τ, z4) = some x) (hk : Sum.elim (fun a => @Prod.casesOn (Mem) (Int32) (fun _ => Prop) a fun τ z4 => GB θ p l e 66 s m args below meth c 5 (some (.int r.1), r.2) 31 [(0, .ref (be θ + 565)), (1, .int x1), (2, .int y2), (3, .int y3), (4, .int z4)] [] τ) (fun w => GB θ p l e 66 s m args below meth c 5 (some (.int r.1), r.2) 80 [(0, .ref (be θ + 565)), (1, .int x1), (2, .int y2), (3, .int y3)] [] w) x) : GB θ p l e 66 s m args below meth c 5 (some (.int r.1), r.2) 31 [(0, .ref (be θ + 565)), (1, .int x1), (2, .int y2), (3, .int y3), (4, .int z4)] [] τ := by
  unfold f_Model_laysDesires_L31 at h
  dsimp only at h
  refine g_iload X dX11_laysDesires_31 4 rfl ?_
  refine g_bipush X dX11_laysDesires_33 (v := (60 : Int32)) bp_60 ?_
  refine g_icmp_gt (tgt := 80) X dX11_laysDesires_35 (by decide) (fun c3 => ?_) (fun c3 => ?_)
  · replace h := (if_pos c3).symm.trans h
    have hk := inr_hk h hk
    exact g_sub (lv' := [(0, .ref (be θ + 565)), (1, .int x1), (2, .int y2), (3, .int y3)]) [0, 1, 2, 3] rfl hk
  · replace h := (if_neg c3).symm.trans h
    refine g_aload_n X dX11_laysDesires_38 rfl 0 rfl ?_
    refine g_aload_n X dX11_laysDesires_39 rfl 0 rfl ?_
    refine g_get X fl_RX11_64 dX11_laysDesires_40 kd_565 (v := .ref (be θ + 579)) rfl ?_
    obtain ⟨q4, hq4, h⟩ := Option.bind_eq_some_iff.mp h
    refine g_cV X (c_Model_passes kd_579 hq4) lk_RX11_402 my_X11_passes (a := 565) (ci := 11) kd_565 (by decide) rfl (As := [.ref (be θ + 579)]) (rest := []) rfl rfl (Nat.le_of_ble_eq_true rfl) ⟨(Nat.le_of_ble_eq_true rfl), (Nat.le_of_ble_eq_true rfl)⟩ ⟨(Nat.le_of_ble_eq_true rfl), (Nat.le_of_ble_eq_true rfl)⟩ dX11_laysDesires_43 (st' := []) (σ' := q4) rfl rfl ?_
    refine g_aload_n X dX11_laysDesires_46 rfl 0 rfl ?_
    refine g_get X fl_RX11_99 dX11_laysDesires_47 kd_565 (v := .ref (be θ + 586)) rfl ?_
    refine g_bipush X dX11_laysDesires_50 (v := (61 : Int32)) bp_61 ?_
    refine g_iload_n X dX11_laysDesires_52 rfl 3 rfl ?_
    refine g_imul X dX11_laysDesires_53 ?_
    refine g_iload X dX11_laysDesires_54 4 rfl ?_
    refine g_iadd X dX11_laysDesires_56 ?_
    refine g_aload_n X dX11_laysDesires_57 rfl 0 rfl ?_
    refine g_get X fl_RX11_64 dX11_laysDesires_58 kd_565 (v := .ref (be θ + 579)) rfl ?_
    refine g_sipush X dX11_laysDesires_61 (v := (129 : Int32)) sp_129 ?_
    refine g_iald X kd_579 ln_579 (inb_in (show inb (129 : Int32) 131 = true by decide)) dX11_laysDesires_64 ?_
    refine g_aload_n X dX11_laysDesires_65 rfl 0 rfl ?_
    refine g_get X fl_RX11_64 dX11_laysDesires_66 kd_565 (v := .ref (be θ + 579)) rfl ?_
    obtain ⟨q5, hq5, h⟩ := Option.bind_eq_some_iff.mp h
    refine g_cS X (c_Model_allDue kd_579 hq5) lk_RX11_471 my_X11_allDue (As := [.ref (be θ + 579)]) (rest := [.int (mI q4 579 (129 : Int32).toNatClampNeg), .int (((61 : Int32) * y3) + z4), .ref (be θ + 586)]) rfl rfl (Nat.le_of_ble_eq_true rfl) ⟨(Nat.le_of_ble_eq_true rfl), (Nat.le_of_ble_eq_true rfl)⟩ ⟨(Nat.le_of_ble_eq_true rfl), (Nat.le_of_ble_eq_true rfl)⟩ dX11_laysDesires_69 (st' := [.int q5, .int (mI q4 579 (129 : Int32).toNatClampNeg), .int (((61 : Int32) * y3) + z4), .ref (be θ + 586)]) (σ' := q4) rfl rfl ?_
    refine g_iadd X dX11_laysDesires_72 ?_
    obtain ⟨g6, h⟩ := ite_some h
    refine g_iast X kd_586 ln_586 (inb_in g6) dX11_laysDesires_73 ?_
    refine g_iinc X dX11_laysDesires_74 (kq := 4) rfl (congrArg (HAdd.hAdd _) ic_1) (by decide) (lv' := [(4, .int (z4 + (1 : Int32))), (0, .ref (be θ + 565)), (1, .int x1), (2, .int y2), (3, .int y3)]) rfl ?_
    refine g_goto (tgt := 31) X dX11_laysDesires_77 (by decide) ?_
    have hk := inl_hk h hk
    exact g_sub (lv' := [(0, .ref (be θ + 565)), (1, .int x1), (2, .int y2), (3, .int y3), (4, .int (z4 + (1 : Int32)))]) [1, 2, 3, 4, 0] rfl hk
set_option maxHeartbeats 4000000 in
set_option maxRecDepth 20000 in
theorem gl_Model_laysDesires_L31 (X : Cx θ p s m args c cX11_laysDesires 5 RX11) (hr : meth.sig.returnType = some .int) (hlk : meth.locks = false)  {x1 : Int32} {y2 : Int32} {y3 : Int32} {r : Int32 × Mem}  (n : Nat) (a : Mem × Int32) (b : Mem) (h : loopF (f_Model_laysDesires_L31 x1 y2 y3) n a = some b) (hk : (fun w => GB θ p l e 66 s m args below meth c 5 (some (.int r.1), r.2) 80 [(0, .ref (be θ + 565)), (1, .int x1), (2, .int y2), (3, .int y3)] [] w) b) : (fun a => @Prod.casesOn (Mem) (Int32) (fun _ => Prop) a fun τ z4 => GB θ p l e 66 s m args below meth c 5 (some (.int r.1), r.2) 31 [(0, .ref (be θ + 565)), (1, .int x1), (2, .int y2), (3, .int y3), (4, .int z4)] [] τ) a :=
  loopF_by (P := (fun a => @Prod.casesOn (Mem) (Int32) (fun _ => Prop) a fun τ z4 => GB θ p l e 66 s m args below meth c 5 (some (.int r.1), r.2) 31 [(0, .ref (be θ + 565)), (1, .int x1), (2, .int y2), (3, .int y3), (4, .int z4)] [] τ)) (K := (fun w => GB θ p l e 66 s m args below meth c 5 (some (.int r.1), r.2) 80 [(0, .ref (be θ + 565)), (1, .int x1), (2, .int y2), (3, .int y3)] [] w)) (fun a x h hk => by obtain ⟨τ, z4⟩ := a; exact gs_Model_laysDesires_L31 X hr hlk   τ z4 x h hk) n a b h hk
set_option maxHeartbeats 4000000 in
set_option maxRecDepth 20000 in
theorem gs_Model_laysDesires_L90 (X : Cx θ p s m args c cX11_laysDesires 5 RX11) (hr : meth.sig.returnType = some .int) (hlk : meth.locks = false)  {x1 : Int32} {y2 : Int32} {y3 : Int32} {r : Int32 × Mem}  (τ : Mem) (z4 : Int32) (x : (Mem × Int32) ⊕ (Mem)) (h : f_Model_laysDesires_L90 x1 y2 y3 (τ, z4) = some x) (hk : Sum.elim (fun a => @Prod.casesOn (Mem) (Int32) (fun _ => Prop) a fun τ z4 => GB θ p l e 66 s m args below meth c 5 (some (.int r.1), r.2) 90 [(0, .ref (be θ + 565)), (1, .int x1), (2, .int y2), (3, .int y3), (4, .int z4)] [] τ) (fun w => GB θ p l e 66 s m args below meth c 5 (some (.int r.1), r.2) 182 [(0, .ref (be θ + 565)), (1, .int x1), (2, .int y2), (3, .int y3)] [] w) x) : GB θ p l e 66 s m args below meth c 5 (some (.int r.1), r.2) 90 [(0, .ref (be θ + 565)), (1, .int x1), (2, .int y2), (3, .int y3), (4, .int z4)] [] τ := by
  unfold f_Model_laysDesires_L90 at h
  dsimp only at h
  refine g_iload X dX11_laysDesires_90 4 rfl ?_
  refine g_iconst X dX11_laysDesires_92 (v := (3 : Int32)) ic_3 ?_
  refine g_aload_n X dX11_laysDesires_93 rfl 0 rfl ?_
  refine g_get X fl_RX11_317 dX11_laysDesires_94 kd_565 (v := .int (mI τ 565 51)) rfl ?_
  refine g_imul X dX11_laysDesires_97 ?_
  refine g_icmp_ge (tgt := 182) X dX11_laysDesires_98 (by decide) (fun c9 => ?_) (fun c9 => ?_)
  · replace h := (if_pos c9).symm.trans h
    have hk := inr_hk h hk
    exact g_sub (lv' := [(0, .ref (be θ + 565)), (1, .int x1), (2, .int y2), (3, .int y3)]) [0, 1, 2, 3] rfl hk
  · replace h := (if_neg c9).symm.trans h
    refine g_aload_n X dX11_laysDesires_101 rfl 0 rfl ?_
    refine g_get X fl_RX11_102 dX11_laysDesires_102 kd_565 (v := .ref (be θ + 587)) rfl ?_
    refine g_iload_n X dX11_laysDesires_105 rfl 3 rfl ?_
    refine g_aload_n X dX11_laysDesires_106 rfl 0 rfl ?_
    refine g_get X fl_RX11_102 dX11_laysDesires_107 kd_565 (v := .ref (be θ + 587)) rfl ?_
    refine g_iload_n X dX11_laysDesires_110 rfl 3 rfl ?_
    obtain ⟨g10, h⟩ := ite_some h
    refine g_zald X kd_587 ln_587 (inb_in g10) dX11_laysDesires_111 ?_
    refine g_if_eq (tgt := 174) X dX11_laysDesires_112 (by decide) (fun c11 => ?_) (fun c11 => ?_)
    · replace h := (if_pos c11).symm.trans h
      refine g_iconst X dX11_laysDesires_174 (v := (0 : Int32)) ic_0 ?_
      refine g_zast X kd_587 ln_587 (inb_in g10) dX11_laysDesires_175 ?_
      refine g_iinc X dX11_laysDesires_176 (kq := 4) rfl (congrArg (HAdd.hAdd _) ic_3) (by decide) (lv' := [(4, .int (z4 + (3 : Int32))), (0, .ref (be θ + 565)), (1, .int x1), (2, .int y2), (3, .int y3)]) rfl ?_
      refine g_goto (tgt := 90) X dX11_laysDesires_179 (by decide) ?_
      have hk := inl_hk h hk
      exact g_sub (lv' := [(0, .ref (be θ + 565)), (1, .int x1), (2, .int y2), (3, .int y3), (4, .int (z4 + (3 : Int32)))]) [1, 2, 3, 4, 0] rfl hk
    · replace h := (if_neg c11).symm.trans h
      refine g_aload_n X dX11_laysDesires_115 rfl 0 rfl ?_
      refine g_get X fl_RX11_99 dX11_laysDesires_116 kd_565 (v := .ref (be θ + 586)) rfl ?_
      refine g_bipush X dX11_laysDesires_119 (v := (61 : Int32)) bp_61 ?_
      refine g_iload_n X dX11_laysDesires_121 rfl 3 rfl ?_
      refine g_imul X dX11_laysDesires_122 ?_
      refine g_aload_n X dX11_laysDesires_123 rfl 0 rfl ?_
      refine g_get X fl_RX11_96 dX11_laysDesires_124 kd_565 (v := .ref (be θ + 585)) rfl ?_
      refine g_iload X dX11_laysDesires_127 4 rfl ?_
      obtain ⟨g12, h⟩ := ite_some h
      refine g_iald X kd_585 ln_585 (inb_in g12) dX11_laysDesires_129 ?_
      refine g_iadd X dX11_laysDesires_130 ?_
      obtain ⟨g13, h⟩ := ite_some h
      refine g_iald X kd_586 ln_586 (inb_in g13) dX11_laysDesires_131 ?_
      refine g_aload_n X dX11_laysDesires_132 rfl 0 rfl ?_
      refine g_get X fl_RX11_96 dX11_laysDesires_133 kd_565 (v := .ref (be θ + 585)) rfl ?_
      refine g_iload X dX11_laysDesires_136 4 rfl ?_
      refine g_iconst X dX11_laysDesires_138 (v := (1 : Int32)) ic_1 ?_
      refine g_iadd X dX11_laysDesires_139 ?_
      obtain ⟨g14, h⟩ := ite_some h
      refine g_iald X kd_585 ln_585 (inb_in g14) dX11_laysDesires_140 ?_
      refine g_icmp_lt (tgt := 148) X dX11_laysDesires_141 (by decide) (fun c15 => ?_) (fun c15 => ?_)
      · replace h := (if_pos c15).symm.trans h
        refine g_iconst X dX11_laysDesires_148 (v := (0 : Int32)) ic_0 ?_
        refine g_aload_n X dX11_laysDesires_149 rfl 0 rfl ?_
        refine g_get X fl_RX11_96 dX11_laysDesires_150 kd_565 (v := .ref (be θ + 585)) rfl ?_
        refine g_iload X dX11_laysDesires_153 4 rfl ?_
        refine g_iconst X dX11_laysDesires_155 (v := (2 : Int32)) ic_2 ?_
        refine g_iadd X dX11_laysDesires_156 ?_
        obtain ⟨g16, h⟩ := ite_some h
        refine g_iald X kd_585 ln_585 (inb_in g16) dX11_laysDesires_157 ?_
        refine g_iconst X dX11_laysDesires_158 (v := (1 : Int32)) ic_1 ?_
        refine g_icmp_ne (tgt := 166) X dX11_laysDesires_159 (by decide) (fun c17 => ?_) (fun c17 => ?_)
        · replace h := (if_neg c17).symm.trans h
          refine g_iconst X dX11_laysDesires_166 (v := (0 : Int32)) ic_0 ?_
          refine g_icmp_ne (tgt := 174) X dX11_laysDesires_167 (by decide) (fun c18 => ?_) (fun c18 => ?_)
          · replace h := (if_neg c18).symm.trans h
            refine g_iconst X dX11_laysDesires_174 (v := (0 : Int32)) ic_0 ?_
            refine g_zast X kd_587 ln_587 (inb_in g10) dX11_laysDesires_175 ?_
            refine g_iinc X dX11_laysDesires_176 (kq := 4) rfl (congrArg (HAdd.hAdd _) ic_3) (by decide) (lv' := [(4, .int (z4 + (3 : Int32))), (0, .ref (be θ + 565)), (1, .int x1), (2, .int y2), (3, .int y3)]) rfl ?_
            refine g_goto (tgt := 90) X dX11_laysDesires_179 (by decide) ?_
            have hk := inl_hk h hk
            exact g_sub (lv' := [(0, .ref (be θ + 565)), (1, .int x1), (2, .int y2), (3, .int y3), (4, .int (z4 + (3 : Int32)))]) [1, 2, 3, 4, 0] rfl hk
          · replace h := (if_pos c18).symm.trans h
            refine g_iconst X dX11_laysDesires_170 (v := (1 : Int32)) ic_1 ?_
            refine g_goto (tgt := 175) X dX11_laysDesires_171 (by decide) ?_
            refine g_zast X kd_587 ln_587 (inb_in g10) dX11_laysDesires_175 ?_
            refine g_iinc X dX11_laysDesires_176 (kq := 4) rfl (congrArg (HAdd.hAdd _) ic_3) (by decide) (lv' := [(4, .int (z4 + (3 : Int32))), (0, .ref (be θ + 565)), (1, .int x1), (2, .int y2), (3, .int y3)]) rfl ?_
            refine g_goto (tgt := 90) X dX11_laysDesires_179 (by decide) ?_
            have hk := inl_hk h hk
            exact g_sub (lv' := [(0, .ref (be θ + 565)), (1, .int x1), (2, .int y2), (3, .int y3), (4, .int (z4 + (3 : Int32)))]) [1, 2, 3, 4, 0] rfl hk
        · replace h := (if_pos c17).symm.trans h
          refine g_iconst X dX11_laysDesires_162 (v := (1 : Int32)) ic_1 ?_
          refine g_goto (tgt := 167) X dX11_laysDesires_163 (by decide) ?_
          refine g_icmp_ne (tgt := 174) X dX11_laysDesires_167 (by decide) (fun c19 => ?_) (fun c19 => ?_)
          · replace h := (if_neg c19).symm.trans h
            refine g_iconst X dX11_laysDesires_174 (v := (0 : Int32)) ic_0 ?_
            refine g_zast X kd_587 ln_587 (inb_in g10) dX11_laysDesires_175 ?_
            refine g_iinc X dX11_laysDesires_176 (kq := 4) rfl (congrArg (HAdd.hAdd _) ic_3) (by decide) (lv' := [(4, .int (z4 + (3 : Int32))), (0, .ref (be θ + 565)), (1, .int x1), (2, .int y2), (3, .int y3)]) rfl ?_
            refine g_goto (tgt := 90) X dX11_laysDesires_179 (by decide) ?_
            have hk := inl_hk h hk
            exact g_sub (lv' := [(0, .ref (be θ + 565)), (1, .int x1), (2, .int y2), (3, .int y3), (4, .int (z4 + (3 : Int32)))]) [1, 2, 3, 4, 0] rfl hk
          · replace h := (if_pos c19).symm.trans h
            refine g_iconst X dX11_laysDesires_170 (v := (1 : Int32)) ic_1 ?_
            refine g_goto (tgt := 175) X dX11_laysDesires_171 (by decide) ?_
            refine g_zast X kd_587 ln_587 (inb_in g10) dX11_laysDesires_175 ?_
            refine g_iinc X dX11_laysDesires_176 (kq := 4) rfl (congrArg (HAdd.hAdd _) ic_3) (by decide) (lv' := [(4, .int (z4 + (3 : Int32))), (0, .ref (be θ + 565)), (1, .int x1), (2, .int y2), (3, .int y3)]) rfl ?_
            refine g_goto (tgt := 90) X dX11_laysDesires_179 (by decide) ?_
            have hk := inl_hk h hk
            exact g_sub (lv' := [(0, .ref (be θ + 565)), (1, .int x1), (2, .int y2), (3, .int y3), (4, .int (z4 + (3 : Int32)))]) [1, 2, 3, 4, 0] rfl hk
      · replace h := (if_neg c15).symm.trans h
        refine g_iconst X dX11_laysDesires_144 (v := (1 : Int32)) ic_1 ?_
        refine g_goto (tgt := 149) X dX11_laysDesires_145 (by decide) ?_
        refine g_aload_n X dX11_laysDesires_149 rfl 0 rfl ?_
        refine g_get X fl_RX11_96 dX11_laysDesires_150 kd_565 (v := .ref (be θ + 585)) rfl ?_
        refine g_iload X dX11_laysDesires_153 4 rfl ?_
        refine g_iconst X dX11_laysDesires_155 (v := (2 : Int32)) ic_2 ?_
        refine g_iadd X dX11_laysDesires_156 ?_
        obtain ⟨g20, h⟩ := ite_some h
        refine g_iald X kd_585 ln_585 (inb_in g20) dX11_laysDesires_157 ?_
        refine g_iconst X dX11_laysDesires_158 (v := (1 : Int32)) ic_1 ?_
        refine g_icmp_ne (tgt := 166) X dX11_laysDesires_159 (by decide) (fun c21 => ?_) (fun c21 => ?_)
        · replace h := (if_neg c21).symm.trans h
          refine g_iconst X dX11_laysDesires_166 (v := (0 : Int32)) ic_0 ?_
          refine g_icmp_ne (tgt := 174) X dX11_laysDesires_167 (by decide) (fun c22 => ?_) (fun c22 => ?_)
          · replace h := (if_neg c22).symm.trans h
            refine g_iconst X dX11_laysDesires_174 (v := (0 : Int32)) ic_0 ?_
            refine g_zast X kd_587 ln_587 (inb_in g10) dX11_laysDesires_175 ?_
            refine g_iinc X dX11_laysDesires_176 (kq := 4) rfl (congrArg (HAdd.hAdd _) ic_3) (by decide) (lv' := [(4, .int (z4 + (3 : Int32))), (0, .ref (be θ + 565)), (1, .int x1), (2, .int y2), (3, .int y3)]) rfl ?_
            refine g_goto (tgt := 90) X dX11_laysDesires_179 (by decide) ?_
            have hk := inl_hk h hk
            exact g_sub (lv' := [(0, .ref (be θ + 565)), (1, .int x1), (2, .int y2), (3, .int y3), (4, .int (z4 + (3 : Int32)))]) [1, 2, 3, 4, 0] rfl hk
          · replace h := (if_pos c22).symm.trans h
            refine g_iconst X dX11_laysDesires_170 (v := (1 : Int32)) ic_1 ?_
            refine g_goto (tgt := 175) X dX11_laysDesires_171 (by decide) ?_
            refine g_zast X kd_587 ln_587 (inb_in g10) dX11_laysDesires_175 ?_
            refine g_iinc X dX11_laysDesires_176 (kq := 4) rfl (congrArg (HAdd.hAdd _) ic_3) (by decide) (lv' := [(4, .int (z4 + (3 : Int32))), (0, .ref (be θ + 565)), (1, .int x1), (2, .int y2), (3, .int y3)]) rfl ?_
            refine g_goto (tgt := 90) X dX11_laysDesires_179 (by decide) ?_
            have hk := inl_hk h hk
            exact g_sub (lv' := [(0, .ref (be θ + 565)), (1, .int x1), (2, .int y2), (3, .int y3), (4, .int (z4 + (3 : Int32)))]) [1, 2, 3, 4, 0] rfl hk
        · replace h := (if_pos c21).symm.trans h
          refine g_iconst X dX11_laysDesires_162 (v := (1 : Int32)) ic_1 ?_
          refine g_goto (tgt := 167) X dX11_laysDesires_163 (by decide) ?_
          refine g_icmp_ne (tgt := 174) X dX11_laysDesires_167 (by decide) (fun c23 => ?_) (fun c23 => ?_)
          · replace h := (if_neg c23).symm.trans h
            refine g_iconst X dX11_laysDesires_174 (v := (0 : Int32)) ic_0 ?_
            refine g_zast X kd_587 ln_587 (inb_in g10) dX11_laysDesires_175 ?_
            refine g_iinc X dX11_laysDesires_176 (kq := 4) rfl (congrArg (HAdd.hAdd _) ic_3) (by decide) (lv' := [(4, .int (z4 + (3 : Int32))), (0, .ref (be θ + 565)), (1, .int x1), (2, .int y2), (3, .int y3)]) rfl ?_
            refine g_goto (tgt := 90) X dX11_laysDesires_179 (by decide) ?_
            have hk := inl_hk h hk
            exact g_sub (lv' := [(0, .ref (be θ + 565)), (1, .int x1), (2, .int y2), (3, .int y3), (4, .int (z4 + (3 : Int32)))]) [1, 2, 3, 4, 0] rfl hk
          · replace h := (if_pos c23).symm.trans h
            refine g_iconst X dX11_laysDesires_170 (v := (1 : Int32)) ic_1 ?_
            refine g_goto (tgt := 175) X dX11_laysDesires_171 (by decide) ?_
            refine g_zast X kd_587 ln_587 (inb_in g10) dX11_laysDesires_175 ?_
            refine g_iinc X dX11_laysDesires_176 (kq := 4) rfl (congrArg (HAdd.hAdd _) ic_3) (by decide) (lv' := [(4, .int (z4 + (3 : Int32))), (0, .ref (be θ + 565)), (1, .int x1), (2, .int y2), (3, .int y3)]) rfl ?_
            refine g_goto (tgt := 90) X dX11_laysDesires_179 (by decide) ?_
            have hk := inl_hk h hk
            exact g_sub (lv' := [(0, .ref (be θ + 565)), (1, .int x1), (2, .int y2), (3, .int y3), (4, .int (z4 + (3 : Int32)))]) [1, 2, 3, 4, 0] rfl hk
set_option maxHeartbeats 4000000 in
set_option maxRecDepth 20000 in
theorem gl_Model_laysDesires_L90 (X : Cx θ p s m args c cX11_laysDesires 5 RX11) (hr : meth.sig.returnType = some .int) (hlk : meth.locks = false)  {x1 : Int32} {y2 : Int32} {y3 : Int32} {r : Int32 × Mem}  (n : Nat) (a : Mem × Int32) (b : Mem) (h : loopF (f_Model_laysDesires_L90 x1 y2 y3) n a = some b) (hk : (fun w => GB θ p l e 66 s m args below meth c 5 (some (.int r.1), r.2) 182 [(0, .ref (be θ + 565)), (1, .int x1), (2, .int y2), (3, .int y3)] [] w) b) : (fun a => @Prod.casesOn (Mem) (Int32) (fun _ => Prop) a fun τ z4 => GB θ p l e 66 s m args below meth c 5 (some (.int r.1), r.2) 90 [(0, .ref (be θ + 565)), (1, .int x1), (2, .int y2), (3, .int y3), (4, .int z4)] [] τ) a :=
  loopF_by (P := (fun a => @Prod.casesOn (Mem) (Int32) (fun _ => Prop) a fun τ z4 => GB θ p l e 66 s m args below meth c 5 (some (.int r.1), r.2) 90 [(0, .ref (be θ + 565)), (1, .int x1), (2, .int y2), (3, .int y3), (4, .int z4)] [] τ)) (K := (fun w => GB θ p l e 66 s m args below meth c 5 (some (.int r.1), r.2) 182 [(0, .ref (be θ + 565)), (1, .int x1), (2, .int y2), (3, .int y3)] [] w)) (fun a x h hk => by obtain ⟨τ, z4⟩ := a; exact gs_Model_laysDesires_L90 X hr hlk   τ z4 x h hk) n a b h hk
set_option maxHeartbeats 4000000 in
set_option maxRecDepth 20000 in
theorem gs_Model_laysDesires_L9 (X : Cx θ p s m args c cX11_laysDesires 5 RX11) (hr : meth.sig.returnType = some .int) (hlk : meth.locks = false)  {x1 : Int32} {r : Int32 × Mem}  (τ : Mem) (z2 : Int32) (z3 : Int32) (x : (Mem × Int32 × Int32) ⊕ (Int32 × Mem)) (h : f_Model_laysDesires_L9 x1 (τ, z2, z3) = some x) (hk : Sum.elim (fun a => @Prod.casesOn (Mem) (Int32 × Int32) (fun _ => Prop) a fun τ b0 => @Prod.casesOn (Int32) (Int32) (fun _ => Prop) b0 fun z2 z3 => GB θ p l e 66 s m args below meth c 5 (some (.int r.1), r.2) 9 [(0, .ref (be θ + 565)), (1, .int x1), (2, .int z2), (3, .int z3)] [] τ) (fun b => b = r) x) : GB θ p l e 66 s m args below meth c 5 (some (.int r.1), r.2) 9 [(0, .ref (be θ + 565)), (1, .int x1), (2, .int z2), (3, .int z3)] [] τ := by
  unfold f_Model_laysDesires_L9 at h
  dsimp only at h
  refine g_iload_n X dX11_laysDesires_9 rfl 3 rfl ?_
  refine g_bipush X dX11_laysDesires_10 (v := (9 : Int32)) bp_9 ?_
  refine g_icmp_gt (tgt := 205) X dX11_laysDesires_12 (by decide) (fun c1 => ?_) (fun c1 => ?_)
  · replace h := (if_pos c1).symm.trans h
    refine g_aload_n X dX11_laysDesires_205 rfl 0 rfl ?_
    refine g_iconst X dX11_laysDesires_206 (v := (-1 : Int32)) ic_m1 ?_
    refine g_putI X fl_RX11_84 dX11_laysDesires_207 kd_565 rfl rfl rfl ?_
    refine g_iload_n X dX11_laysDesires_210 rfl 2 rfl ?_
    have hk := inr_hk h hk
    have hk : (z2, (sI τ 565 39 (-1 : Int32))) = r := hk
    subst hk
    exact g_iret X hr hlk dX11_laysDesires_211 rfl
  · replace h := (if_neg c1).symm.trans h
    refine g_aload_n X dX11_laysDesires_15 rfl 0 rfl ?_
    refine g_iload_n X dX11_laysDesires_16 rfl 3 rfl ?_
    refine g_putI X fl_RX11_329 dX11_laysDesires_17 kd_565 rfl rfl rfl ?_
    refine g_aload_n X dX11_laysDesires_20 rfl 0 rfl ?_
    refine g_aload_n X dX11_laysDesires_21 rfl 0 rfl ?_
    refine g_get X fl_RX11_64 dX11_laysDesires_22 kd_565 (v := .ref (be θ + 579)) rfl ?_
    obtain ⟨q2, hq2, h⟩ := Option.bind_eq_some_iff.mp h
    refine g_cV X (c_Model_lays kd_579 hq2) lk_RX11_313 my_X11_lays (a := 565) (ci := 11) kd_565 (by decide) rfl (As := [.ref (be θ + 579)]) (rest := []) rfl rfl (Nat.le_of_ble_eq_true rfl) ⟨(Nat.le_of_ble_eq_true rfl), (Nat.le_of_ble_eq_true rfl)⟩ ⟨(Nat.le_of_ble_eq_true rfl), (Nat.le_of_ble_eq_true rfl)⟩ dX11_laysDesires_25 (st' := []) (σ' := q2) rfl rfl ?_
    refine g_iconst X dX11_laysDesires_28 (v := (1 : Int32)) ic_1 ?_
    refine g_istore X dX11_laysDesires_29 (by decide) (lv' := [(4, .int (1 : Int32)), (0, .ref (be θ + 565)), (1, .int x1), (2, .int z2), (3, .int z3)]) rfl ?_
    obtain ⟨w7, hq7, h⟩ := Option.bind_eq_some_iff.mp h
    refine g_sub (lv' := [(0, .ref (be θ + 565)), (1, .int x1), (2, .int z2), (3, .int z3), (4, .int (1 : Int32))]) [1, 2, 3, 4, 0] rfl (gl_Model_laysDesires_L31 X hr hlk    FU _ w7 hq7 ?_)
    refine g_aload_n X dX11_laysDesires_80 rfl 0 rfl ?_
    refine g_get X fl_RX11_102 dX11_laysDesires_81 kd_565 (v := .ref (be θ + 587)) rfl ?_
    refine g_iload_n X dX11_laysDesires_84 rfl 3 rfl ?_
    refine g_iconst X dX11_laysDesires_85 (v := (1 : Int32)) ic_1 ?_
    obtain ⟨g8, h⟩ := ite_some h
    refine g_zast X kd_587 ln_587 (inb_in g8) dX11_laysDesires_86 ?_
    refine g_iconst X dX11_laysDesires_87 (v := (0 : Int32)) ic_0 ?_
    refine g_istore X dX11_laysDesires_88 (by decide) (lv' := [(4, .int (0 : Int32)), (0, .ref (be θ + 565)), (1, .int x1), (2, .int z2), (3, .int z3)]) rfl ?_
    obtain ⟨w24, hq24, h⟩ := Option.bind_eq_some_iff.mp h
    refine g_sub (lv' := [(0, .ref (be θ + 565)), (1, .int x1), (2, .int z2), (3, .int z3), (4, .int (0 : Int32))]) [1, 2, 3, 4, 0] rfl (gl_Model_laysDesires_L90 X hr hlk    FU _ w24 hq24 ?_)
    refine g_iload_n X dX11_laysDesires_182 rfl 2 rfl ?_
    refine g_aload_n X dX11_laysDesires_183 rfl 0 rfl ?_
    refine g_get X fl_RX11_102 dX11_laysDesires_184 kd_565 (v := .ref (be θ + 587)) rfl ?_
    refine g_iload_n X dX11_laysDesires_187 rfl 3 rfl ?_
    refine g_zald X kd_587 ln_587 (inb_in g8) dX11_laysDesires_188 ?_
    refine g_if_eq (tgt := 196) X dX11_laysDesires_189 (by decide) (fun c25 => ?_) (fun c25 => ?_)
    · replace h := (if_pos c25).symm.trans h
      refine g_iconst X dX11_laysDesires_196 (v := (0 : Int32)) ic_0 ?_
      refine g_iadd X dX11_laysDesires_197 ?_
      refine g_istore_n X dX11_laysDesires_198 rfl (by decide) (lv' := [(2, .int (z2 + (0 : Int32))), (0, .ref (be θ + 565)), (1, .int x1), (3, .int z3)]) rfl ?_
      refine g_iinc X dX11_laysDesires_199 (kq := 3) rfl (congrArg (HAdd.hAdd _) ic_1) (by decide) (lv' := [(3, .int (z3 + (1 : Int32))), (2, .int (z2 + (0 : Int32))), (0, .ref (be θ + 565)), (1, .int x1)]) rfl ?_
      refine g_goto (tgt := 9) X dX11_laysDesires_202 (by decide) ?_
      have hk := inl_hk h hk
      exact g_sub (lv' := [(0, .ref (be θ + 565)), (1, .int x1), (2, .int (z2 + (0 : Int32))), (3, .int (z3 + (1 : Int32)))]) [2, 3, 1, 0] rfl hk
    · replace h := (if_neg c25).symm.trans h
      refine g_iconst X dX11_laysDesires_192 (v := (1 : Int32)) ic_1 ?_
      refine g_goto (tgt := 197) X dX11_laysDesires_193 (by decide) ?_
      refine g_iadd X dX11_laysDesires_197 ?_
      refine g_istore_n X dX11_laysDesires_198 rfl (by decide) (lv' := [(2, .int (z2 + (1 : Int32))), (0, .ref (be θ + 565)), (1, .int x1), (3, .int z3)]) rfl ?_
      refine g_iinc X dX11_laysDesires_199 (kq := 3) rfl (congrArg (HAdd.hAdd _) ic_1) (by decide) (lv' := [(3, .int (z3 + (1 : Int32))), (2, .int (z2 + (1 : Int32))), (0, .ref (be θ + 565)), (1, .int x1)]) rfl ?_
      refine g_goto (tgt := 9) X dX11_laysDesires_202 (by decide) ?_
      have hk := inl_hk h hk
      exact g_sub (lv' := [(0, .ref (be θ + 565)), (1, .int x1), (2, .int (z2 + (1 : Int32))), (3, .int (z3 + (1 : Int32)))]) [2, 3, 1, 0] rfl hk
set_option maxHeartbeats 4000000 in
set_option maxRecDepth 20000 in
theorem gl_Model_laysDesires_L9 (X : Cx θ p s m args c cX11_laysDesires 5 RX11) (hr : meth.sig.returnType = some .int) (hlk : meth.locks = false)  {x1 : Int32} {r : Int32 × Mem}  (n : Nat) (a : Mem × Int32 × Int32) (b : Int32 × Mem) (h : loopF (f_Model_laysDesires_L9 x1) n a = some b) (hk : (fun b => b = r) b) : (fun a => @Prod.casesOn (Mem) (Int32 × Int32) (fun _ => Prop) a fun τ b0 => @Prod.casesOn (Int32) (Int32) (fun _ => Prop) b0 fun z2 z3 => GB θ p l e 66 s m args below meth c 5 (some (.int r.1), r.2) 9 [(0, .ref (be θ + 565)), (1, .int x1), (2, .int z2), (3, .int z3)] [] τ) a :=
  loopF_by (P := (fun a => @Prod.casesOn (Mem) (Int32 × Int32) (fun _ => Prop) a fun τ b0 => @Prod.casesOn (Int32) (Int32) (fun _ => Prop) b0 fun z2 z3 => GB θ p l e 66 s m args below meth c 5 (some (.int r.1), r.2) 9 [(0, .ref (be θ + 565)), (1, .int x1), (2, .int z2), (3, .int z3)] [] τ)) (K := (fun b => b = r)) (fun a x h hk => by obtain ⟨τ, z2, z3⟩ := a; exact gs_Model_laysDesires_L9 X hr hlk   τ z2 z3 x h hk) n a b h hk
set_option maxHeartbeats 4000000 in
set_option maxRecDepth 20000 in
theorem g_Model_laysDesires (X : Cx θ p s m args c cX11_laysDesires 5 RX11) (hr : meth.sig.returnType = some .int) (hlk : meth.locks = false)  {σ : Mem} {x1 : Int32} {r : Int32 × Mem}  (h : f_Model_laysDesires σ x1 = some r) : GB θ p l e 66 s m args below meth c 5 (some (.int r.1), r.2) 0 [(0, .ref (be θ + 565)), (1, .int x1)] [] σ := by
  unfold f_Model_laysDesires at h
  refine g_iconst X dX11_laysDesires_0 (v := (0 : Int32)) ic_0 ?_
  refine g_istore_n X dX11_laysDesires_1 rfl (by decide) (lv' := [(2, .int (0 : Int32)), (0, .ref (be θ + 565)), (1, .int x1)]) rfl ?_
  refine g_aload_n X dX11_laysDesires_2 rfl 1 rfl ?_
  refine g_iload_n X dX11_laysDesires_3 rfl 2 rfl ?_
  refine g_putI X fl_RX11_84 dX11_laysDesires_4 kd_565 rfl rfl rfl ?_
  refine g_iconst X dX11_laysDesires_7 (v := (0 : Int32)) ic_0 ?_
  refine g_istore_n X dX11_laysDesires_8 rfl (by decide) (lv' := [(3, .int (0 : Int32)), (2, .int (0 : Int32)), (0, .ref (be θ + 565)), (1, .int x1)]) rfl ?_
  exact g_sub (lv' := [(0, .ref (be θ + 565)), (1, .int x1), (2, .int (0 : Int32)), (3, .int (0 : Int32))]) [2, 3, 1, 0] rfl (gl_Model_laysDesires_L9 X hr hlk    FU _ _ h rfl)
set_option maxHeartbeats 4000000 in
set_option maxRecDepth 20000 in
theorem c_Model_laysDesires {θ : Th} {l : Launch} {σ : Mem} {x1 : Int32} {r : Int32 × Mem}  (h : f_Model_laysDesires σ x1 = some r) : Cn θ l yX11_laysDesires cX11_laysDesires 5 (some .int) 66 0 0 [.ref (be θ + 565), .int x1] σ (some (.int r.1), r.2) :=
  Cn.of (by decide) (Nat.le_of_ble_eq_true rfl) (fun p e s m below meth c X hr hlk => g_Model_laysDesires X hr hlk  h)
theorem dX11_desires_0 : decode cX11_desires 0 = .ok (.aload_n 0, 1) := by decide +kernel
theorem dX11_desires_1 : decode cX11_desires 1 = .ok (.iconst 0, 1) := by decide +kernel
theorem dX11_desires_2 : decode cX11_desires 2 = .ok (.putfield 112, 3) := by decide +kernel
theorem dX11_desires_5 : decode cX11_desires 5 = .ok (.aload_n 0, 1) := by decide +kernel
theorem dX11_desires_6 : decode cX11_desires 6 = .ok (.iload_n 1, 1) := by decide +kernel
theorem dX11_desires_7 : decode cX11_desires 7 = .ok (.invokevirtual 412, 3) := by decide +kernel
theorem dX11_desires_10 : decode cX11_desires 10 = .ok (.ifCond .eq 8, 3) := by decide +kernel
theorem dX11_desires_13 : decode cX11_desires 13 = .ok (.iload_n 2, 1) := by decide +kernel
theorem dX11_desires_14 : decode cX11_desires 14 = .ok (.iconst (-1), 1) := by decide +kernel
theorem dX11_desires_15 : decode cX11_desires 15 = .ok (.if_icmp .ge 5, 3) := by decide +kernel
theorem dX11_desires_18 : decode cX11_desires 18 = .ok (.iconst (-1), 1) := by decide +kernel
theorem dX11_desires_19 : decode cX11_desires 19 = .ok (.ireturn, 1) := by decide +kernel
theorem dX11_desires_20 : decode cX11_desires 20 = .ok (.aload_n 0, 1) := by decide +kernel
theorem dX11_desires_21 : decode cX11_desires 21 = .ok (.iload_n 1, 1) := by decide +kernel
theorem dX11_desires_22 : decode cX11_desires 22 = .ok (.invokevirtual 497, 3) := by decide +kernel
theorem dX11_desires_25 : decode cX11_desires 25 = .ok (.istore_n 3, 1) := by decide +kernel
theorem dX11_desires_26 : decode cX11_desires 26 = .ok (.iload_n 2, 1) := by decide +kernel
theorem dX11_desires_27 : decode cX11_desires 27 = .ok (.iconst (-1), 1) := by decide +kernel
theorem dX11_desires_28 : decode cX11_desires 28 = .ok (.if_icmp .ne 5, 3) := by decide +kernel
theorem dX11_desires_31 : decode cX11_desires 31 = .ok (.iload_n 3, 1) := by decide +kernel
theorem dX11_desires_32 : decode cX11_desires 32 = .ok (.ireturn, 1) := by decide +kernel
theorem dX11_desires_33 : decode cX11_desires 33 = .ok (.iconst 0, 1) := by decide +kernel
theorem dX11_desires_34 : decode cX11_desires 34 = .ok (.istore 4, 2) := by decide +kernel
theorem dX11_desires_36 : decode cX11_desires 36 = .ok (.iconst 0, 1) := by decide +kernel
theorem dX11_desires_37 : decode cX11_desires 37 = .ok (.istore 5, 2) := by decide +kernel
theorem dX11_desires_39 : decode cX11_desires 39 = .ok (.iload 5, 2) := by decide +kernel
theorem dX11_desires_41 : decode cX11_desires 41 = .ok (.bipush 9, 2) := by decide +kernel
theorem dX11_desires_43 : decode cX11_desires 43 = .ok (.if_icmp .gt 34, 3) := by decide +kernel
theorem dX11_desires_46 : decode cX11_desires 46 = .ok (.aload_n 0, 1) := by decide +kernel
theorem dX11_desires_47 : decode cX11_desires 47 = .ok (.getfield 102, 3) := by decide +kernel
theorem dX11_desires_50 : decode cX11_desires 50 = .ok (.iload 5, 2) := by decide +kernel
theorem dX11_desires_52 : decode cX11_desires 52 = .ok (.baload, 1) := by decide +kernel
theorem dX11_desires_53 : decode cX11_desires 53 = .ok (.ifCond .ne 6, 3) := by decide +kernel
theorem dX11_desires_56 : decode cX11_desires 56 = .ok (.goto 15, 3) := by decide +kernel
theorem dX11_desires_59 : decode cX11_desires 59 = .ok (.iload 4, 2) := by decide +kernel
theorem dX11_desires_61 : decode cX11_desires 61 = .ok (.iload_n 2, 1) := by decide +kernel
theorem dX11_desires_62 : decode cX11_desires 62 = .ok (.if_icmp .ne 6, 3) := by decide +kernel
theorem dX11_desires_65 : decode cX11_desires 65 = .ok (.iload 5, 2) := by decide +kernel
theorem dX11_desires_67 : decode cX11_desires 67 = .ok (.ireturn, 1) := by decide +kernel
theorem dX11_desires_68 : decode cX11_desires 68 = .ok (.iinc 4 1, 3) := by decide +kernel
theorem dX11_desires_71 : decode cX11_desires 71 = .ok (.iinc 5 1, 3) := by decide +kernel
theorem dX11_desires_74 : decode cX11_desires 74 = .ok (.goto (-35), 3) := by decide +kernel
theorem dX11_desires_77 : decode cX11_desires 77 = .ok (.iconst (-1), 1) := by decide +kernel
theorem dX11_desires_78 : decode cX11_desires 78 = .ok (.ireturn, 1) := by decide +kernel
def f_Model_desires_L39 (σ : Mem) (x1 : Int32) (x2 : Int32) (a : Int32 × Int32) : Option ((Int32 × Int32) ⊕ (Int32 × Mem)) :=
  @Prod.casesOn (Int32) (Int32) (fun _ => Option ((Int32 × Int32) ⊕ (Int32 × Mem))) a fun z4 z5 =>
  if (9 : Int32) < z5 then
    some (.inr ((-1 : Int32), σ))
  else
    if inb z5 10 then
      if (mI σ 587 z5.toNatClampNeg) = (0 : Int32) then
        some (.inl (z4, (z5 + (1 : Int32))))
      else
        if z4 = x2 then
          some (.inr (z5, σ))
        else
          some (.inl ((z4 + (1 : Int32)), (z5 + (1 : Int32))))
    else none
def f_Model_desires (σ : Mem) (x1 : Int32) (x2 : Int32) : Option (Int32 × Mem) :=
  (f_Model_isBuyer (sI σ 565 0 (0 : Int32)) x1).bind fun q1 =>
  if q1 = (0 : Int32) then
    some ((-1 : Int32), (sI σ 565 0 (0 : Int32)))
  else
    if (-1 : Int32) ≤ x2 then
      (f_Model_laysDesires (sI σ 565 0 (0 : Int32)) x1).bind fun q4 =>
      if x2 = (-1 : Int32) then
        some (q4.1, q4.2)
      else
        loopF (f_Model_desires_L39 q4.2 x1 x2) FU ((0 : Int32), (0 : Int32))
    else
      some ((-1 : Int32), (sI σ 565 0 (0 : Int32)))
set_option maxHeartbeats 4000000 in
set_option maxRecDepth 20000 in
theorem gs_Model_desires_L39 (X : Cx θ p s m args c cX11_desires 6 RX11) (hr : meth.sig.returnType = some .int) (hlk : meth.locks = false)  {σ : Mem} {x1 : Int32} {x2 : Int32} {r : Int32 × Mem}  (z4 : Int32) (z5 : Int32) (x : (Int32 × Int32) ⊕ (Int32 × Mem)) (h : f_Model_desires_L39 σ x1 x2 (z4, z5) = some x) (hk : Sum.elim (fun a => @Prod.casesOn (Int32) (Int32) (fun _ => Prop) a fun z4 z5 => GB θ p l e 67 s m args below meth c 6 (some (.int r.1), r.2) 39 [(0, .ref (be θ + 565)), (1, .int x1), (2, .int x2), (4, .int z4), (5, .int z5)] [] σ) (fun b => b = r) x) : GB θ p l e 67 s m args below meth c 6 (some (.int r.1), r.2) 39 [(0, .ref (be θ + 565)), (1, .int x1), (2, .int x2), (4, .int z4), (5, .int z5)] [] σ := by
  unfold f_Model_desires_L39 at h
  dsimp only at h
  refine g_iload X dX11_desires_39 4 rfl ?_
  refine g_bipush X dX11_desires_41 (v := (9 : Int32)) bp_9 ?_
  refine g_icmp_gt (tgt := 77) X dX11_desires_43 (by decide) (fun c6 => ?_) (fun c6 => ?_)
  · replace h := (if_pos c6).symm.trans h
    refine g_iconst X dX11_desires_77 (v := (-1 : Int32)) ic_m1 ?_
    have hk := inr_hk h hk
    have hk : ((-1 : Int32), σ) = r := hk
    subst hk
    exact g_iret X hr hlk dX11_desires_78 rfl
  · replace h := (if_neg c6).symm.trans h
    refine g_aload_n X dX11_desires_46 rfl 0 rfl ?_
    refine g_get X fl_RX11_102 dX11_desires_47 kd_565 (v := .ref (be θ + 587)) rfl ?_
    refine g_iload X dX11_desires_50 4 rfl ?_
    obtain ⟨g7, h⟩ := ite_some h
    refine g_zald X kd_587 ln_587 (inb_in g7) dX11_desires_52 ?_
    refine g_if_ne (tgt := 59) X dX11_desires_53 (by decide) (fun c8 => ?_) (fun c8 => ?_)
    · replace h := (if_neg c8).symm.trans h
      refine g_iload X dX11_desires_59 3 rfl ?_
      refine g_iload_n X dX11_desires_61 rfl 2 rfl ?_
      refine g_icmp_ne (tgt := 68) X dX11_desires_62 (by decide) (fun c9 => ?_) (fun c9 => ?_)
      · replace h := (if_neg c9).symm.trans h
        refine g_iinc X dX11_desires_68 (kq := 3) rfl (congrArg (HAdd.hAdd _) ic_1) (by decide) (lv' := [(4, .int (z4 + (1 : Int32))), (0, .ref (be θ + 565)), (1, .int x1), (2, .int x2), (5, .int z5)]) rfl ?_
        refine g_iinc X dX11_desires_71 (kq := 4) rfl (congrArg (HAdd.hAdd _) ic_1) (by decide) (lv' := [(5, .int (z5 + (1 : Int32))), (4, .int (z4 + (1 : Int32))), (0, .ref (be θ + 565)), (1, .int x1), (2, .int x2)]) rfl ?_
        refine g_goto (tgt := 39) X dX11_desires_74 (by decide) ?_
        have hk := inl_hk h hk
        exact g_sub (lv' := [(0, .ref (be θ + 565)), (1, .int x1), (2, .int x2), (4, .int (z4 + (1 : Int32))), (5, .int (z5 + (1 : Int32)))]) [2, 3, 4, 1, 0] rfl hk
      · replace h := (if_pos c9).symm.trans h
        refine g_iload X dX11_desires_65 4 rfl ?_
        have hk := inr_hk h hk
        have hk : (z5, σ) = r := hk
        subst hk
        exact g_iret X hr hlk dX11_desires_67 rfl
    · replace h := (if_pos c8).symm.trans h
      refine g_goto (tgt := 71) X dX11_desires_56 (by decide) ?_
      refine g_iinc X dX11_desires_71 (kq := 4) rfl (congrArg (HAdd.hAdd _) ic_1) (by decide) (lv' := [(5, .int (z5 + (1 : Int32))), (0, .ref (be θ + 565)), (1, .int x1), (2, .int x2), (4, .int z4)]) rfl ?_
      refine g_goto (tgt := 39) X dX11_desires_74 (by decide) ?_
      have hk := inl_hk h hk
      exact g_sub (lv' := [(0, .ref (be θ + 565)), (1, .int x1), (2, .int x2), (4, .int z4), (5, .int (z5 + (1 : Int32)))]) [1, 2, 3, 4, 0] rfl hk
set_option maxHeartbeats 4000000 in
set_option maxRecDepth 20000 in
theorem gl_Model_desires_L39 (X : Cx θ p s m args c cX11_desires 6 RX11) (hr : meth.sig.returnType = some .int) (hlk : meth.locks = false)  {σ : Mem} {x1 : Int32} {x2 : Int32} {r : Int32 × Mem}  (n : Nat) (a : Int32 × Int32) (b : Int32 × Mem) (h : loopF (f_Model_desires_L39 σ x1 x2) n a = some b) (hk : (fun b => b = r) b) : (fun a => @Prod.casesOn (Int32) (Int32) (fun _ => Prop) a fun z4 z5 => GB θ p l e 67 s m args below meth c 6 (some (.int r.1), r.2) 39 [(0, .ref (be θ + 565)), (1, .int x1), (2, .int x2), (4, .int z4), (5, .int z5)] [] σ) a :=
  loopF_by (P := (fun a => @Prod.casesOn (Int32) (Int32) (fun _ => Prop) a fun z4 z5 => GB θ p l e 67 s m args below meth c 6 (some (.int r.1), r.2) 39 [(0, .ref (be θ + 565)), (1, .int x1), (2, .int x2), (4, .int z4), (5, .int z5)] [] σ)) (K := (fun b => b = r)) (fun a x h hk => by obtain ⟨z4, z5⟩ := a; exact gs_Model_desires_L39 X hr hlk   z4 z5 x h hk) n a b h hk
set_option maxHeartbeats 4000000 in
set_option maxRecDepth 20000 in
theorem g_Model_desires (X : Cx θ p s m args c cX11_desires 6 RX11) (hr : meth.sig.returnType = some .int) (hlk : meth.locks = false)  {σ : Mem} {x1 : Int32} {x2 : Int32} {r : Int32 × Mem}  (h : f_Model_desires σ x1 x2 = some r) : GB θ p l e 67 s m args below meth c 6 (some (.int r.1), r.2) 0 [(0, .ref (be θ + 565)), (1, .int x1), (2, .int x2)] [] σ := by
  unfold f_Model_desires at h
  refine g_aload_n X dX11_desires_0 rfl 0 rfl ?_
  refine g_iconst X dX11_desires_1 (v := (0 : Int32)) ic_0 ?_
  refine g_putI X fl_RX11_112 dX11_desires_2 kd_565 rfl rfl rfl ?_
  refine g_aload_n X dX11_desires_5 rfl 0 rfl ?_
  refine g_iload_n X dX11_desires_6 rfl 1 rfl ?_
  obtain ⟨q1, hq1, h⟩ := Option.bind_eq_some_iff.mp h
  refine g_cV X (c_Model_isBuyer  hq1) lk_RX11_412 my_X11_isBuyer (a := 565) (ci := 11) kd_565 (by decide) rfl (As := [.int x1]) (rest := []) rfl rfl (Nat.le_of_ble_eq_true rfl) ⟨(Nat.le_of_ble_eq_true rfl), (Nat.le_of_ble_eq_true rfl)⟩ ⟨(Nat.le_of_ble_eq_true rfl), (Nat.le_of_ble_eq_true rfl)⟩ dX11_desires_7 (st' := [.int q1]) (σ' := (sI σ 565 0 (0 : Int32))) rfl rfl ?_
  refine g_if_eq (tgt := 18) X dX11_desires_10 (by decide) (fun c2 => ?_) (fun c2 => ?_)
  · replace h := (if_pos c2).symm.trans h
    refine g_iconst X dX11_desires_18 (v := (-1 : Int32)) ic_m1 ?_
    exact g_iret X hr hlk dX11_desires_19 (by cases h; rfl)
  · replace h := (if_neg c2).symm.trans h
    refine g_iload_n X dX11_desires_13 rfl 2 rfl ?_
    refine g_iconst X dX11_desires_14 (v := (-1 : Int32)) ic_m1 ?_
    refine g_icmp_ge (tgt := 20) X dX11_desires_15 (by decide) (fun c3 => ?_) (fun c3 => ?_)
    · replace h := (if_pos c3).symm.trans h
      refine g_aload_n X dX11_desires_20 rfl 0 rfl ?_
      refine g_iload_n X dX11_desires_21 rfl 1 rfl ?_
      obtain ⟨q4, hq4, h⟩ := Option.bind_eq_some_iff.mp h
      refine g_cV X (c_Model_laysDesires  hq4) lk_RX11_497 my_X11_laysDesires (a := 565) (ci := 11) kd_565 (by decide) rfl (As := [.int x1]) (rest := []) rfl rfl (Nat.le_of_ble_eq_true rfl) ⟨(Nat.le_of_ble_eq_true rfl), (Nat.le_of_ble_eq_true rfl)⟩ ⟨(Nat.le_of_ble_eq_true rfl), (Nat.le_of_ble_eq_true rfl)⟩ dX11_desires_22 (st' := [.int q4.1]) (σ' := q4.2) rfl rfl ?_
      refine g_istore_n X dX11_desires_25 rfl (by decide) (lv' := [(3, .int q4.1), (0, .ref (be θ + 565)), (1, .int x1), (2, .int x2)]) rfl ?_
      refine g_iload_n X dX11_desires_26 rfl 3 rfl ?_
      refine g_iconst X dX11_desires_27 (v := (-1 : Int32)) ic_m1 ?_
      refine g_icmp_ne (tgt := 33) X dX11_desires_28 (by decide) (fun c5 => ?_) (fun c5 => ?_)
      · replace h := (if_neg c5).symm.trans h
        refine g_iconst X dX11_desires_33 (v := (0 : Int32)) ic_0 ?_
        refine g_istore X dX11_desires_34 (by decide) (lv' := [(4, .int (0 : Int32)), (3, .int q4.1), (0, .ref (be θ + 565)), (1, .int x1), (2, .int x2)]) rfl ?_
        refine g_iconst X dX11_desires_36 (v := (0 : Int32)) ic_0 ?_
        refine g_istore X dX11_desires_37 (by decide) (lv' := [(5, .int (0 : Int32)), (4, .int (0 : Int32)), (3, .int q4.1), (0, .ref (be θ + 565)), (1, .int x1), (2, .int x2)]) rfl ?_
        exact g_sub (lv' := [(0, .ref (be θ + 565)), (1, .int x1), (2, .int x2), (4, .int (0 : Int32)), (5, .int (0 : Int32))]) [3, 4, 5, 1, 0] rfl (gl_Model_desires_L39 X hr hlk    FU _ _ h rfl)
      · replace h := (if_pos c5).symm.trans h
        refine g_iload_n X dX11_desires_31 rfl 0 rfl ?_
        exact g_iret X hr hlk dX11_desires_32 (by cases h; rfl)
    · replace h := (if_neg c3).symm.trans h
      refine g_iconst X dX11_desires_18 (v := (-1 : Int32)) ic_m1 ?_
      exact g_iret X hr hlk dX11_desires_19 (by cases h; rfl)
set_option maxHeartbeats 4000000 in
set_option maxRecDepth 20000 in
theorem c_Model_desires {θ : Th} {l : Launch} {σ : Mem} {x1 : Int32} {x2 : Int32} {r : Int32 × Mem}  (h : f_Model_desires σ x1 x2 = some r) : Cn θ l yX11_desires cX11_desires 6 (some .int) 67 0 0 [.ref (be θ + 565), .int x1, .int x2] σ (some (.int r.1), r.2) :=
  Cn.of (by decide) (Nat.le_of_ble_eq_true rfl) (fun p e s m below meth c X hr hlk => g_Model_desires X hr hlk  h)
theorem dX11_ask_0 : decode cX11_ask 0 = .ok (.aload_n 0, 1) := by decide +kernel
theorem dX11_ask_1 : decode cX11_ask 1 = .ok (.iconst 0, 1) := by decide +kernel
theorem dX11_ask_2 : decode cX11_ask 2 = .ok (.putfield 112, 3) := by decide +kernel
theorem dX11_ask_5 : decode cX11_ask 5 = .ok (.aload_n 0, 1) := by decide +kernel
theorem dX11_ask_6 : decode cX11_ask 6 = .ok (.iload_n 1, 1) := by decide +kernel
theorem dX11_ask_7 : decode cX11_ask 7 = .ok (.invokevirtual 412, 3) := by decide +kernel
theorem dX11_ask_10 : decode cX11_ask 10 = .ok (.ifCond .eq 11, 3) := by decide +kernel
theorem dX11_ask_13 : decode cX11_ask 13 = .ok (.aload_n 0, 1) := by decide +kernel
theorem dX11_ask_14 : decode cX11_ask 14 = .ok (.iload_n 1, 1) := by decide +kernel
theorem dX11_ask_15 : decode cX11_ask 15 = .ok (.invokevirtual 497, 3) := by decide +kernel
theorem dX11_ask_18 : decode cX11_ask 18 = .ok (.ifCond .ne 5, 3) := by decide +kernel
theorem dX11_ask_21 : decode cX11_ask 21 = .ok (.iconst (-1), 1) := by decide +kernel
theorem dX11_ask_22 : decode cX11_ask 22 = .ok (.ireturn, 1) := by decide +kernel
theorem dX11_ask_23 : decode cX11_ask 23 = .ok (.iconst (-1), 1) := by decide +kernel
theorem dX11_ask_24 : decode cX11_ask 24 = .ok (.istore_n 2, 1) := by decide +kernel
theorem dX11_ask_25 : decode cX11_ask 25 = .ok (.iconst 0, 1) := by decide +kernel
theorem dX11_ask_26 : decode cX11_ask 26 = .ok (.istore_n 3, 1) := by decide +kernel
theorem dX11_ask_27 : decode cX11_ask 27 = .ok (.iconst 1, 1) := by decide +kernel
theorem dX11_ask_28 : decode cX11_ask 28 = .ok (.istore 4, 2) := by decide +kernel
theorem dX11_ask_30 : decode cX11_ask 30 = .ok (.iload 4, 2) := by decide +kernel
theorem dX11_ask_32 : decode cX11_ask 32 = .ok (.bipush 60, 2) := by decide +kernel
theorem dX11_ask_34 : decode cX11_ask 34 = .ok (.if_icmp .gt 135, 3) := by decide +kernel
theorem dX11_ask_37 : decode cX11_ask 37 = .ok (.iconst 0, 1) := by decide +kernel
theorem dX11_ask_38 : decode cX11_ask 38 = .ok (.istore 5, 2) := by decide +kernel
theorem dX11_ask_40 : decode cX11_ask 40 = .ok (.iconst 0, 1) := by decide +kernel
theorem dX11_ask_41 : decode cX11_ask 41 = .ok (.istore 6, 2) := by decide +kernel
theorem dX11_ask_43 : decode cX11_ask 43 = .ok (.iload 6, 2) := by decide +kernel
theorem dX11_ask_45 : decode cX11_ask 45 = .ok (.bipush 9, 2) := by decide +kernel
theorem dX11_ask_47 : decode cX11_ask 47 = .ok (.if_icmp .gt 96, 3) := by decide +kernel
theorem dX11_ask_50 : decode cX11_ask 50 = .ok (.iconst 0, 1) := by decide +kernel
theorem dX11_ask_51 : decode cX11_ask 51 = .ok (.istore 7, 2) := by decide +kernel
theorem dX11_ask_53 : decode cX11_ask 53 = .ok (.iconst 0, 1) := by decide +kernel
theorem dX11_ask_54 : decode cX11_ask 54 = .ok (.istore 8, 2) := by decide +kernel
theorem dX11_ask_56 : decode cX11_ask 56 = .ok (.iload 8, 2) := by decide +kernel
theorem dX11_ask_58 : decode cX11_ask 58 = .ok (.bipush 9, 2) := by decide +kernel
theorem dX11_ask_60 : decode cX11_ask 60 = .ok (.if_icmp .gt 68, 3) := by decide +kernel
theorem dX11_ask_63 : decode cX11_ask 63 = .ok (.iload 7, 2) := by decide +kernel
theorem dX11_ask_65 : decode cX11_ask 65 = .ok (.aload_n 0, 1) := by decide +kernel
theorem dX11_ask_66 : decode cX11_ask 66 = .ok (.getfield 102, 3) := by decide +kernel
theorem dX11_ask_69 : decode cX11_ask 69 = .ok (.iload 8, 2) := by decide +kernel
theorem dX11_ask_71 : decode cX11_ask 71 = .ok (.baload, 1) := by decide +kernel
theorem dX11_ask_72 : decode cX11_ask 72 = .ok (.ifCond .eq 46, 3) := by decide +kernel
theorem dX11_ask_75 : decode cX11_ask 75 = .ok (.aload_n 0, 1) := by decide +kernel
theorem dX11_ask_76 : decode cX11_ask 76 = .ok (.getfield 102, 3) := by decide +kernel
theorem dX11_ask_79 : decode cX11_ask 79 = .ok (.iload 6, 2) := by decide +kernel
theorem dX11_ask_81 : decode cX11_ask 81 = .ok (.baload, 1) := by decide +kernel
theorem dX11_ask_82 : decode cX11_ask 82 = .ok (.ifCond .eq 36, 3) := by decide +kernel
theorem dX11_ask_85 : decode cX11_ask 85 = .ok (.aload_n 0, 1) := by decide +kernel
theorem dX11_ask_86 : decode cX11_ask 86 = .ok (.getfield 99, 3) := by decide +kernel
theorem dX11_ask_89 : decode cX11_ask 89 = .ok (.bipush 61, 2) := by decide +kernel
theorem dX11_ask_91 : decode cX11_ask 91 = .ok (.iload 8, 2) := by decide +kernel
theorem dX11_ask_93 : decode cX11_ask 93 = .ok (.imul, 1) := by decide +kernel
theorem dX11_ask_94 : decode cX11_ask 94 = .ok (.iload 4, 2) := by decide +kernel
theorem dX11_ask_96 : decode cX11_ask 96 = .ok (.iadd, 1) := by decide +kernel
theorem dX11_ask_97 : decode cX11_ask 97 = .ok (.iaload, 1) := by decide +kernel
theorem dX11_ask_98 : decode cX11_ask 98 = .ok (.aload_n 0, 1) := by decide +kernel
theorem dX11_ask_99 : decode cX11_ask 99 = .ok (.getfield 99, 3) := by decide +kernel
theorem dX11_ask_102 : decode cX11_ask 102 = .ok (.bipush 61, 2) := by decide +kernel
theorem dX11_ask_104 : decode cX11_ask 104 = .ok (.iload 6, 2) := by decide +kernel
theorem dX11_ask_106 : decode cX11_ask 106 = .ok (.imul, 1) := by decide +kernel
theorem dX11_ask_107 : decode cX11_ask 107 = .ok (.iload 4, 2) := by decide +kernel
theorem dX11_ask_109 : decode cX11_ask 109 = .ok (.iadd, 1) := by decide +kernel
theorem dX11_ask_110 : decode cX11_ask 110 = .ok (.iaload, 1) := by decide +kernel
theorem dX11_ask_111 : decode cX11_ask 111 = .ok (.if_icmp .ne 7, 3) := by decide +kernel
theorem dX11_ask_114 : decode cX11_ask 114 = .ok (.iconst 1, 1) := by decide +kernel
theorem dX11_ask_115 : decode cX11_ask 115 = .ok (.goto 4, 3) := by decide +kernel
theorem dX11_ask_118 : decode cX11_ask 118 = .ok (.iconst 0, 1) := by decide +kernel
theorem dX11_ask_119 : decode cX11_ask 119 = .ok (.iadd, 1) := by decide +kernel
theorem dX11_ask_120 : decode cX11_ask 120 = .ok (.istore 7, 2) := by decide +kernel
theorem dX11_ask_122 : decode cX11_ask 122 = .ok (.iinc 8 1, 3) := by decide +kernel
theorem dX11_ask_125 : decode cX11_ask 125 = .ok (.goto (-69), 3) := by decide +kernel
theorem dX11_ask_128 : decode cX11_ask 128 = .ok (.iload 5, 2) := by decide +kernel
theorem dX11_ask_130 : decode cX11_ask 130 = .ok (.iload 7, 2) := by decide +kernel
theorem dX11_ask_132 : decode cX11_ask 132 = .ok (.invokestatic 349, 3) := by decide +kernel
theorem dX11_ask_135 : decode cX11_ask 135 = .ok (.istore 5, 2) := by decide +kernel
theorem dX11_ask_137 : decode cX11_ask 137 = .ok (.iinc 6 1, 3) := by decide +kernel
theorem dX11_ask_140 : decode cX11_ask 140 = .ok (.goto (-97), 3) := by decide +kernel
theorem dX11_ask_143 : decode cX11_ask 143 = .ok (.iload_n 2, 1) := by decide +kernel
theorem dX11_ask_144 : decode cX11_ask 144 = .ok (.iconst (-1), 1) := by decide +kernel
theorem dX11_ask_145 : decode cX11_ask 145 = .ok (.if_icmp .eq 12, 3) := by decide +kernel
theorem dX11_ask_148 : decode cX11_ask 148 = .ok (.iload 5, 2) := by decide +kernel
theorem dX11_ask_150 : decode cX11_ask 150 = .ok (.iload_n 3, 1) := by decide +kernel
theorem dX11_ask_151 : decode cX11_ask 151 = .ok (.if_icmp .lt 6, 3) := by decide +kernel
theorem dX11_ask_154 : decode cX11_ask 154 = .ok (.goto 9, 3) := by decide +kernel
theorem dX11_ask_157 : decode cX11_ask 157 = .ok (.iload 4, 2) := by decide +kernel
theorem dX11_ask_159 : decode cX11_ask 159 = .ok (.istore_n 2, 1) := by decide +kernel
theorem dX11_ask_160 : decode cX11_ask 160 = .ok (.iload 5, 2) := by decide +kernel
theorem dX11_ask_162 : decode cX11_ask 162 = .ok (.istore_n 3, 1) := by decide +kernel
theorem dX11_ask_163 : decode cX11_ask 163 = .ok (.iinc 4 1, 3) := by decide +kernel
theorem dX11_ask_166 : decode cX11_ask 166 = .ok (.goto (-136), 3) := by decide +kernel
theorem dX11_ask_169 : decode cX11_ask 169 = .ok (.iload_n 2, 1) := by decide +kernel
theorem dX11_ask_170 : decode cX11_ask 170 = .ok (.ireturn, 1) := by decide +kernel
def f_Model_ask_L56 (σ : Mem) (x1 : Int32) (y2 : Int32) (y3 : Int32) (y4 : Int32) (y5 : Int32) (y6 : Int32) (a : Int32 × Int32) : Option ((Int32 × Int32) ⊕ (Int32)) :=
  @Prod.casesOn (Int32) (Int32) (fun _ => Option ((Int32 × Int32) ⊕ (Int32))) a fun z7 z8 =>
  if (9 : Int32) < z8 then
    some (.inr z7)
  else
    if inb z8 10 then
      if (mI σ 587 z8.toNatClampNeg) = (0 : Int32) then
        some (.inl ((z7 + (0 : Int32)), (z8 + (1 : Int32))))
      else
        if inb y6 10 then
          if (mI σ 587 y6.toNatClampNeg) = (0 : Int32) then
            some (.inl ((z7 + (0 : Int32)), (z8 + (1 : Int32))))
          else
            if inb (((61 : Int32) * z8) + y4) 610 then
              if inb (((61 : Int32) * y6) + y4) 610 then
                if (mI σ 586 (((61 : Int32) * z8) + y4).toNatClampNeg) = (mI σ 586 (((61 : Int32) * y6) + y4).toNatClampNeg) then
                  some (.inl ((z7 + (1 : Int32)), (z8 + (1 : Int32))))
                else
                  some (.inl ((z7 + (0 : Int32)), (z8 + (1 : Int32))))
              else none
            else none
        else none
    else none
def f_Model_ask_L43 (σ : Mem) (x1 : Int32) (y2 : Int32) (y3 : Int32) (y4 : Int32) (a : Int32 × Int32) : Option ((Int32 × Int32) ⊕ (Int32)) :=
  @Prod.casesOn (Int32) (Int32) (fun _ => Option ((Int32 × Int32) ⊕ (Int32))) a fun z5 z6 =>
  if (9 : Int32) < z6 then
    some (.inr z5)
  else
    (loopF (f_Model_ask_L56 σ x1 y2 y3 y4 z5 z6) FU ((0 : Int32), (0 : Int32))).bind fun w15 =>
    some (.inl ((imax z5 w15), (z6 + (1 : Int32))))
def f_Model_ask_L30 (σ : Mem) (x1 : Int32) (a : Int32 × Int32 × Int32) : Option ((Int32 × Int32 × Int32) ⊕ (Int32 × Mem)) :=
  @Prod.casesOn (Int32) (Int32 × Int32) (fun _ => Option ((Int32 × Int32 × Int32) ⊕ (Int32 × Mem))) a fun z2 b0 =>
  @Prod.casesOn (Int32) (Int32) (fun _ => Option ((Int32 × Int32 × Int32) ⊕ (Int32 × Mem))) b0 fun z3 z4 =>
  if (60 : Int32) < z4 then
    some (.inr (z2, σ))
  else
    (loopF (f_Model_ask_L43 σ x1 z2 z3 z4) FU ((0 : Int32), (0 : Int32))).bind fun w16 =>
    if z2 = (-1 : Int32) then
      some (.inl (z4, w16, (z4 + (1 : Int32))))
    else
      if w16 < z3 then
        some (.inl (z4, w16, (z4 + (1 : Int32))))
      else
        some (.inl (z2, z3, (z4 + (1 : Int32))))
def f_Model_ask (σ : Mem) (x1 : Int32) : Option (Int32 × Mem) :=
  (f_Model_isBuyer (sI σ 565 0 (0 : Int32)) x1).bind fun q1 =>
  if q1 = (0 : Int32) then
    some ((-1 : Int32), (sI σ 565 0 (0 : Int32)))
  else
    (f_Model_laysDesires (sI σ 565 0 (0 : Int32)) x1).bind fun q3 =>
    if q3.1 = (0 : Int32) then
      some ((-1 : Int32), q3.2)
    else
      loopF (f_Model_ask_L30 q3.2 x1) FU ((-1 : Int32), (0 : Int32), (1 : Int32))
set_option maxHeartbeats 4000000 in
set_option maxRecDepth 20000 in
theorem gs_Model_ask_L56 (X : Cx θ p s m args c cX11_ask 9 RX11) (hr : meth.sig.returnType = some .int) (hlk : meth.locks = false)  {σ : Mem} {x1 : Int32} {y2 : Int32} {y3 : Int32} {y4 : Int32} {y5 : Int32} {y6 : Int32} {r : Int32 × Mem}  (z7 : Int32) (z8 : Int32) (x : (Int32 × Int32) ⊕ (Int32)) (h : f_Model_ask_L56 σ x1 y2 y3 y4 y5 y6 (z7, z8) = some x) (hk : Sum.elim (fun a => @Prod.casesOn (Int32) (Int32) (fun _ => Prop) a fun z7 z8 => GB θ p l e 67 s m args below meth c 9 (some (.int r.1), r.2) 56 [(0, .ref (be θ + 565)), (1, .int x1), (2, .int y2), (3, .int y3), (4, .int y4), (5, .int y5), (6, .int y6), (7, .int z7), (8, .int z8)] [] σ) (fun w => GB θ p l e 67 s m args below meth c 9 (some (.int r.1), r.2) 128 [(0, .ref (be θ + 565)), (1, .int x1), (2, .int y2), (3, .int y3), (4, .int y4), (5, .int y5), (6, .int y6), (7, .int w)] [] σ) x) : GB θ p l e 67 s m args below meth c 9 (some (.int r.1), r.2) 56 [(0, .ref (be θ + 565)), (1, .int x1), (2, .int y2), (3, .int y3), (4, .int y4), (5, .int y5), (6, .int y6), (7, .int z7), (8, .int z8)] [] σ := by
  unfold f_Model_ask_L56 at h
  dsimp only at h
  refine g_iload X dX11_ask_56 8 rfl ?_
  refine g_bipush X dX11_ask_58 (v := (9 : Int32)) bp_9 ?_
  refine g_icmp_gt (tgt := 128) X dX11_ask_60 (by decide) (fun c7 => ?_) (fun c7 => ?_)
  · replace h := (if_pos c7).symm.trans h
    have hk := inr_hk h hk
    exact g_sub (lv' := [(0, .ref (be θ + 565)), (1, .int x1), (2, .int y2), (3, .int y3), (4, .int y4), (5, .int y5), (6, .int y6), (7, .int z7)]) [0, 1, 2, 3, 4, 5, 6, 7] rfl hk
  · replace h := (if_neg c7).symm.trans h
    refine g_iload X dX11_ask_63 7 rfl ?_
    refine g_aload_n X dX11_ask_65 rfl 0 rfl ?_
    refine g_get X fl_RX11_102 dX11_ask_66 kd_565 (v := .ref (be θ + 587)) rfl ?_
    refine g_iload X dX11_ask_69 8 rfl ?_
    obtain ⟨g8, h⟩ := ite_some h
    refine g_zald X kd_587 ln_587 (inb_in g8) dX11_ask_71 ?_
    refine g_if_eq (tgt := 118) X dX11_ask_72 (by decide) (fun c9 => ?_) (fun c9 => ?_)
    · replace h := (if_pos c9).symm.trans h
      refine g_iconst X dX11_ask_118 (v := (0 : Int32)) ic_0 ?_
      refine g_iadd X dX11_ask_119 ?_
      refine g_istore X dX11_ask_120 (by decide) (lv' := [(7, .int (z7 + (0 : Int32))), (0, .ref (be θ + 565)), (1, .int x1), (2, .int y2), (3, .int y3), (4, .int y4), (5, .int y5), (6, .int y6), (8, .int z8)]) rfl ?_
      refine g_iinc X dX11_ask_122 (kq := 8) rfl (congrArg (HAdd.hAdd _) ic_1) (by decide) (lv' := [(8, .int (z8 + (1 : Int32))), (7, .int (z7 + (0 : Int32))), (0, .ref (be θ + 565)), (1, .int x1), (2, .int y2), (3, .int y3), (4, .int y4), (5, .int y5), (6, .int y6)]) rfl ?_
      refine g_goto (tgt := 56) X dX11_ask_125 (by decide) ?_
      have hk := inl_hk h hk
      exact g_sub (lv' := [(0, .ref (be θ + 565)), (1, .int x1), (2, .int y2), (3, .int y3), (4, .int y4), (5, .int y5), (6, .int y6), (7, .int (z7 + (0 : Int32))), (8, .int (z8 + (1 : Int32)))]) [2, 3, 4, 5, 6, 7, 8, 1, 0] rfl hk
    · replace h := (if_neg c9).symm.trans h
      refine g_aload_n X dX11_ask_75 rfl 0 rfl ?_
      refine g_get X fl_RX11_102 dX11_ask_76 kd_565 (v := .ref (be θ + 587)) rfl ?_
      refine g_iload X dX11_ask_79 6 rfl ?_
      obtain ⟨g10, h⟩ := ite_some h
      refine g_zald X kd_587 ln_587 (inb_in g10) dX11_ask_81 ?_
      refine g_if_eq (tgt := 118) X dX11_ask_82 (by decide) (fun c11 => ?_) (fun c11 => ?_)
      · replace h := (if_pos c11).symm.trans h
        refine g_iconst X dX11_ask_118 (v := (0 : Int32)) ic_0 ?_
        refine g_iadd X dX11_ask_119 ?_
        refine g_istore X dX11_ask_120 (by decide) (lv' := [(7, .int (z7 + (0 : Int32))), (0, .ref (be θ + 565)), (1, .int x1), (2, .int y2), (3, .int y3), (4, .int y4), (5, .int y5), (6, .int y6), (8, .int z8)]) rfl ?_
        refine g_iinc X dX11_ask_122 (kq := 8) rfl (congrArg (HAdd.hAdd _) ic_1) (by decide) (lv' := [(8, .int (z8 + (1 : Int32))), (7, .int (z7 + (0 : Int32))), (0, .ref (be θ + 565)), (1, .int x1), (2, .int y2), (3, .int y3), (4, .int y4), (5, .int y5), (6, .int y6)]) rfl ?_
        refine g_goto (tgt := 56) X dX11_ask_125 (by decide) ?_
        have hk := inl_hk h hk
        exact g_sub (lv' := [(0, .ref (be θ + 565)), (1, .int x1), (2, .int y2), (3, .int y3), (4, .int y4), (5, .int y5), (6, .int y6), (7, .int (z7 + (0 : Int32))), (8, .int (z8 + (1 : Int32)))]) [2, 3, 4, 5, 6, 7, 8, 1, 0] rfl hk
      · replace h := (if_neg c11).symm.trans h
        refine g_aload_n X dX11_ask_85 rfl 0 rfl ?_
        refine g_get X fl_RX11_99 dX11_ask_86 kd_565 (v := .ref (be θ + 586)) rfl ?_
        refine g_bipush X dX11_ask_89 (v := (61 : Int32)) bp_61 ?_
        refine g_iload X dX11_ask_91 8 rfl ?_
        refine g_imul X dX11_ask_93 ?_
        refine g_iload X dX11_ask_94 4 rfl ?_
        refine g_iadd X dX11_ask_96 ?_
        obtain ⟨g12, h⟩ := ite_some h
        refine g_iald X kd_586 ln_586 (inb_in g12) dX11_ask_97 ?_
        refine g_aload_n X dX11_ask_98 rfl 0 rfl ?_
        refine g_get X fl_RX11_99 dX11_ask_99 kd_565 (v := .ref (be θ + 586)) rfl ?_
        refine g_bipush X dX11_ask_102 (v := (61 : Int32)) bp_61 ?_
        refine g_iload X dX11_ask_104 6 rfl ?_
        refine g_imul X dX11_ask_106 ?_
        refine g_iload X dX11_ask_107 4 rfl ?_
        refine g_iadd X dX11_ask_109 ?_
        obtain ⟨g13, h⟩ := ite_some h
        refine g_iald X kd_586 ln_586 (inb_in g13) dX11_ask_110 ?_
        refine g_icmp_ne (tgt := 118) X dX11_ask_111 (by decide) (fun c14 => ?_) (fun c14 => ?_)
        · replace h := (if_neg c14).symm.trans h
          refine g_iconst X dX11_ask_118 (v := (0 : Int32)) ic_0 ?_
          refine g_iadd X dX11_ask_119 ?_
          refine g_istore X dX11_ask_120 (by decide) (lv' := [(7, .int (z7 + (0 : Int32))), (0, .ref (be θ + 565)), (1, .int x1), (2, .int y2), (3, .int y3), (4, .int y4), (5, .int y5), (6, .int y6), (8, .int z8)]) rfl ?_
          refine g_iinc X dX11_ask_122 (kq := 8) rfl (congrArg (HAdd.hAdd _) ic_1) (by decide) (lv' := [(8, .int (z8 + (1 : Int32))), (7, .int (z7 + (0 : Int32))), (0, .ref (be θ + 565)), (1, .int x1), (2, .int y2), (3, .int y3), (4, .int y4), (5, .int y5), (6, .int y6)]) rfl ?_
          refine g_goto (tgt := 56) X dX11_ask_125 (by decide) ?_
          have hk := inl_hk h hk
          exact g_sub (lv' := [(0, .ref (be θ + 565)), (1, .int x1), (2, .int y2), (3, .int y3), (4, .int y4), (5, .int y5), (6, .int y6), (7, .int (z7 + (0 : Int32))), (8, .int (z8 + (1 : Int32)))]) [2, 3, 4, 5, 6, 7, 8, 1, 0] rfl hk
        · replace h := (if_pos c14).symm.trans h
          refine g_iconst X dX11_ask_114 (v := (1 : Int32)) ic_1 ?_
          refine g_goto (tgt := 119) X dX11_ask_115 (by decide) ?_
          refine g_iadd X dX11_ask_119 ?_
          refine g_istore X dX11_ask_120 (by decide) (lv' := [(7, .int (z7 + (1 : Int32))), (0, .ref (be θ + 565)), (1, .int x1), (2, .int y2), (3, .int y3), (4, .int y4), (5, .int y5), (6, .int y6), (8, .int z8)]) rfl ?_
          refine g_iinc X dX11_ask_122 (kq := 8) rfl (congrArg (HAdd.hAdd _) ic_1) (by decide) (lv' := [(8, .int (z8 + (1 : Int32))), (7, .int (z7 + (1 : Int32))), (0, .ref (be θ + 565)), (1, .int x1), (2, .int y2), (3, .int y3), (4, .int y4), (5, .int y5), (6, .int y6)]) rfl ?_
          refine g_goto (tgt := 56) X dX11_ask_125 (by decide) ?_
          have hk := inl_hk h hk
          exact g_sub (lv' := [(0, .ref (be θ + 565)), (1, .int x1), (2, .int y2), (3, .int y3), (4, .int y4), (5, .int y5), (6, .int y6), (7, .int (z7 + (1 : Int32))), (8, .int (z8 + (1 : Int32)))]) [2, 3, 4, 5, 6, 7, 8, 1, 0] rfl hk
set_option maxHeartbeats 4000000 in
set_option maxRecDepth 20000 in
theorem gl_Model_ask_L56 (X : Cx θ p s m args c cX11_ask 9 RX11) (hr : meth.sig.returnType = some .int) (hlk : meth.locks = false)  {σ : Mem} {x1 : Int32} {y2 : Int32} {y3 : Int32} {y4 : Int32} {y5 : Int32} {y6 : Int32} {r : Int32 × Mem}  (n : Nat) (a : Int32 × Int32) (b : Int32) (h : loopF (f_Model_ask_L56 σ x1 y2 y3 y4 y5 y6) n a = some b) (hk : (fun w => GB θ p l e 67 s m args below meth c 9 (some (.int r.1), r.2) 128 [(0, .ref (be θ + 565)), (1, .int x1), (2, .int y2), (3, .int y3), (4, .int y4), (5, .int y5), (6, .int y6), (7, .int w)] [] σ) b) : (fun a => @Prod.casesOn (Int32) (Int32) (fun _ => Prop) a fun z7 z8 => GB θ p l e 67 s m args below meth c 9 (some (.int r.1), r.2) 56 [(0, .ref (be θ + 565)), (1, .int x1), (2, .int y2), (3, .int y3), (4, .int y4), (5, .int y5), (6, .int y6), (7, .int z7), (8, .int z8)] [] σ) a :=
  loopF_by (P := (fun a => @Prod.casesOn (Int32) (Int32) (fun _ => Prop) a fun z7 z8 => GB θ p l e 67 s m args below meth c 9 (some (.int r.1), r.2) 56 [(0, .ref (be θ + 565)), (1, .int x1), (2, .int y2), (3, .int y3), (4, .int y4), (5, .int y5), (6, .int y6), (7, .int z7), (8, .int z8)] [] σ)) (K := (fun w => GB θ p l e 67 s m args below meth c 9 (some (.int r.1), r.2) 128 [(0, .ref (be θ + 565)), (1, .int x1), (2, .int y2), (3, .int y3), (4, .int y4), (5, .int y5), (6, .int y6), (7, .int w)] [] σ)) (fun a x h hk => by obtain ⟨z7, z8⟩ := a; exact gs_Model_ask_L56 X hr hlk   z7 z8 x h hk) n a b h hk
set_option maxHeartbeats 4000000 in
set_option maxRecDepth 20000 in
theorem gs_Model_ask_L43 (X : Cx θ p s m args c cX11_ask 9 RX11) (hr : meth.sig.returnType = some .int) (hlk : meth.locks = false)  {σ : Mem} {x1 : Int32} {y2 : Int32} {y3 : Int32} {y4 : Int32} {r : Int32 × Mem}  (z5 : Int32) (z6 : Int32) (x : (Int32 × Int32) ⊕ (Int32)) (h : f_Model_ask_L43 σ x1 y2 y3 y4 (z5, z6) = some x) (hk : Sum.elim (fun a => @Prod.casesOn (Int32) (Int32) (fun _ => Prop) a fun z5 z6 => GB θ p l e 67 s m args below meth c 9 (some (.int r.1), r.2) 43 [(0, .ref (be θ + 565)), (1, .int x1), (2, .int y2), (3, .int y3), (4, .int y4), (5, .int z5), (6, .int z6)] [] σ) (fun w => GB θ p l e 67 s m args below meth c 9 (some (.int r.1), r.2) 143 [(0, .ref (be θ + 565)), (1, .int x1), (2, .int y2), (3, .int y3), (4, .int y4), (5, .int w)] [] σ) x) : GB θ p l e 67 s m args below meth c 9 (some (.int r.1), r.2) 43 [(0, .ref (be θ + 565)), (1, .int x1), (2, .int y2), (3, .int y3), (4, .int y4), (5, .int z5), (6, .int z6)] [] σ := by
  unfold f_Model_ask_L43 at h
  dsimp only at h
  refine g_iload X dX11_ask_43 6 rfl ?_
  refine g_bipush X dX11_ask_45 (v := (9 : Int32)) bp_9 ?_
  refine g_icmp_gt (tgt := 143) X dX11_ask_47 (by decide) (fun c6 => ?_) (fun c6 => ?_)
  · replace h := (if_pos c6).symm.trans h
    have hk := inr_hk h hk
    exact g_sub (lv' := [(0, .ref (be θ + 565)), (1, .int x1), (2, .int y2), (3, .int y3), (4, .int y4), (5, .int z5)]) [0, 1, 2, 3, 4, 5] rfl hk
  · replace h := (if_neg c6).symm.trans h
    refine g_iconst X dX11_ask_50 (v := (0 : Int32)) ic_0 ?_
    refine g_istore X dX11_ask_51 (by decide) (lv' := [(7, .int (0 : Int32)), (0, .ref (be θ + 565)), (1, .int x1), (2, .int y2), (3, .int y3), (4, .int y4), (5, .int z5), (6, .int z6)]) rfl ?_
    refine g_iconst X dX11_ask_53 (v := (0 : Int32)) ic_0 ?_
    refine g_istore X dX11_ask_54 (by decide) (lv' := [(8, .int (0 : Int32)), (7, .int (0 : Int32)), (0, .ref (be θ + 565)), (1, .int x1), (2, .int y2), (3, .int y3), (4, .int y4), (5, .int z5), (6, .int z6)]) rfl ?_
    obtain ⟨w15, hq15, h⟩ := Option.bind_eq_some_iff.mp h
    refine g_sub (lv' := [(0, .ref (be θ + 565)), (1, .int x1), (2, .int y2), (3, .int y3), (4, .int y4), (5, .int z5), (6, .int z6), (7, .int (0 : Int32)), (8, .int (0 : Int32))]) [2, 3, 4, 5, 6, 7, 8, 1, 0] rfl (gl_Model_ask_L56 X hr hlk    FU _ w15 hq15 ?_)
    refine g_iload X dX11_ask_128 5 rfl ?_
    refine g_iload X dX11_ask_130 7 rfl ?_
    refine g_max X lm_RX11_349 ⟨(Nat.le_of_ble_eq_true rfl), (Nat.le_of_ble_eq_true rfl)⟩ ⟨(Nat.le_of_ble_eq_true rfl), (Nat.le_of_ble_eq_true rfl)⟩ dX11_ask_132 ?_
    refine g_istore X dX11_ask_135 (by decide) (lv' := [(5, .int (imax z5 w15)), (0, .ref (be θ + 565)), (1, .int x1), (2, .int y2), (3, .int y3), (4, .int y4), (6, .int z6), (7, .int w15)]) rfl ?_
    refine g_iinc X dX11_ask_137 (kq := 6) rfl (congrArg (HAdd.hAdd _) ic_1) (by decide) (lv' := [(6, .int (z6 + (1 : Int32))), (5, .int (imax z5 w15)), (0, .ref (be θ + 565)), (1, .int x1), (2, .int y2), (3, .int y3), (4, .int y4), (7, .int w15)]) rfl ?_
    refine g_goto (tgt := 43) X dX11_ask_140 (by decide) ?_
    have hk := inl_hk h hk
    exact g_sub (lv' := [(0, .ref (be θ + 565)), (1, .int x1), (2, .int y2), (3, .int y3), (4, .int y4), (5, .int (imax z5 w15)), (6, .int (z6 + (1 : Int32)))]) [2, 3, 4, 5, 6, 1, 0] rfl hk
set_option maxHeartbeats 4000000 in
set_option maxRecDepth 20000 in
theorem gl_Model_ask_L43 (X : Cx θ p s m args c cX11_ask 9 RX11) (hr : meth.sig.returnType = some .int) (hlk : meth.locks = false)  {σ : Mem} {x1 : Int32} {y2 : Int32} {y3 : Int32} {y4 : Int32} {r : Int32 × Mem}  (n : Nat) (a : Int32 × Int32) (b : Int32) (h : loopF (f_Model_ask_L43 σ x1 y2 y3 y4) n a = some b) (hk : (fun w => GB θ p l e 67 s m args below meth c 9 (some (.int r.1), r.2) 143 [(0, .ref (be θ + 565)), (1, .int x1), (2, .int y2), (3, .int y3), (4, .int y4), (5, .int w)] [] σ) b) : (fun a => @Prod.casesOn (Int32) (Int32) (fun _ => Prop) a fun z5 z6 => GB θ p l e 67 s m args below meth c 9 (some (.int r.1), r.2) 43 [(0, .ref (be θ + 565)), (1, .int x1), (2, .int y2), (3, .int y3), (4, .int y4), (5, .int z5), (6, .int z6)] [] σ) a :=
  loopF_by (P := (fun a => @Prod.casesOn (Int32) (Int32) (fun _ => Prop) a fun z5 z6 => GB θ p l e 67 s m args below meth c 9 (some (.int r.1), r.2) 43 [(0, .ref (be θ + 565)), (1, .int x1), (2, .int y2), (3, .int y3), (4, .int y4), (5, .int z5), (6, .int z6)] [] σ)) (K := (fun w => GB θ p l e 67 s m args below meth c 9 (some (.int r.1), r.2) 143 [(0, .ref (be θ + 565)), (1, .int x1), (2, .int y2), (3, .int y3), (4, .int y4), (5, .int w)] [] σ)) (fun a x h hk => by obtain ⟨z5, z6⟩ := a; exact gs_Model_ask_L43 X hr hlk   z5 z6 x h hk) n a b h hk
set_option maxHeartbeats 4000000 in
set_option maxRecDepth 20000 in
theorem gs_Model_ask_L30 (X : Cx θ p s m args c cX11_ask 9 RX11) (hr : meth.sig.returnType = some .int) (hlk : meth.locks = false)  {σ : Mem} {x1 : Int32} {r : Int32 × Mem}  (z2 : Int32) (z3 : Int32) (z4 : Int32) (x : (Int32 × Int32 × Int32) ⊕ (Int32 × Mem)) (h : f_Model_ask_L30 σ x1 (z2, z3, z4) = some x) (hk : Sum.elim (fun a => @Prod.casesOn (Int32) (Int32 × Int32) (fun _ => Prop) a fun z2 b0 => @Prod.casesOn (Int32) (Int32) (fun _ => Prop) b0 fun z3 z4 => GB θ p l e 67 s m args below meth c 9 (some (.int r.1), r.2) 30 [(0, .ref (be θ + 565)), (1, .int x1), (2, .int z2), (3, .int z3), (4, .int z4)] [] σ) (fun b => b = r) x) : GB θ p l e 67 s m args below meth c 9 (some (.int r.1), r.2) 30 [(0, .ref (be θ + 565)), (1, .int x1), (2, .int z2), (3, .int z3), (4, .int z4)] [] σ := by
  unfold f_Model_ask_L30 at h
  dsimp only at h
  refine g_iload X dX11_ask_30 4 rfl ?_
  refine g_bipush X dX11_ask_32 (v := (60 : Int32)) bp_60 ?_
  refine g_icmp_gt (tgt := 169) X dX11_ask_34 (by decide) (fun c5 => ?_) (fun c5 => ?_)
  · replace h := (if_pos c5).symm.trans h
    refine g_iload_n X dX11_ask_169 rfl 2 rfl ?_
    have hk := inr_hk h hk
    have hk : (z2, σ) = r := hk
    subst hk
    exact g_iret X hr hlk dX11_ask_170 rfl
  · replace h := (if_neg c5).symm.trans h
    refine g_iconst X dX11_ask_37 (v := (0 : Int32)) ic_0 ?_
    refine g_istore X dX11_ask_38 (by decide) (lv' := [(5, .int (0 : Int32)), (0, .ref (be θ + 565)), (1, .int x1), (2, .int z2), (3, .int z3), (4, .int z4)]) rfl ?_
    refine g_iconst X dX11_ask_40 (v := (0 : Int32)) ic_0 ?_
    refine g_istore X dX11_ask_41 (by decide) (lv' := [(6, .int (0 : Int32)), (5, .int (0 : Int32)), (0, .ref (be θ + 565)), (1, .int x1), (2, .int z2), (3, .int z3), (4, .int z4)]) rfl ?_
    obtain ⟨w16, hq16, h⟩ := Option.bind_eq_some_iff.mp h
    refine g_sub (lv' := [(0, .ref (be θ + 565)), (1, .int x1), (2, .int z2), (3, .int z3), (4, .int z4), (5, .int (0 : Int32)), (6, .int (0 : Int32))]) [2, 3, 4, 5, 6, 1, 0] rfl (gl_Model_ask_L43 X hr hlk    FU _ w16 hq16 ?_)
    refine g_iload_n X dX11_ask_143 rfl 2 rfl ?_
    refine g_iconst X dX11_ask_144 (v := (-1 : Int32)) ic_m1 ?_
    refine g_icmp_eq (tgt := 157) X dX11_ask_145 (by decide) (fun c17 => ?_) (fun c17 => ?_)
    · replace h := (if_pos c17).symm.trans h
      refine g_iload X dX11_ask_157 4 rfl ?_
      refine g_istore_n X dX11_ask_159 rfl (by decide) (lv' := [(2, .int z4), (0, .ref (be θ + 565)), (1, .int x1), (3, .int z3), (4, .int z4), (5, .int w16)]) rfl ?_
      refine g_iload X dX11_ask_160 5 rfl ?_
      refine g_istore_n X dX11_ask_162 rfl (by decide) (lv' := [(3, .int w16), (2, .int z4), (0, .ref (be θ + 565)), (1, .int x1), (4, .int z4), (5, .int w16)]) rfl ?_
      refine g_iinc X dX11_ask_163 (kq := 4) rfl (congrArg (HAdd.hAdd _) ic_1) (by decide) (lv' := [(4, .int (z4 + (1 : Int32))), (3, .int w16), (2, .int z4), (0, .ref (be θ + 565)), (1, .int x1), (5, .int w16)]) rfl ?_
      refine g_goto (tgt := 30) X dX11_ask_166 (by decide) ?_
      have hk := inl_hk h hk
      exact g_sub (lv' := [(0, .ref (be θ + 565)), (1, .int x1), (2, .int z4), (3, .int w16), (4, .int (z4 + (1 : Int32)))]) [3, 4, 2, 1, 0] rfl hk
    · replace h := (if_neg c17).symm.trans h
      refine g_iload X dX11_ask_148 5 rfl ?_
      refine g_iload_n X dX11_ask_150 rfl 3 rfl ?_
      refine g_icmp_lt (tgt := 157) X dX11_ask_151 (by decide) (fun c18 => ?_) (fun c18 => ?_)
      · replace h := (if_pos c18).symm.trans h
        refine g_iload X dX11_ask_157 4 rfl ?_
        refine g_istore_n X dX11_ask_159 rfl (by decide) (lv' := [(2, .int z4), (0, .ref (be θ + 565)), (1, .int x1), (3, .int z3), (4, .int z4), (5, .int w16)]) rfl ?_
        refine g_iload X dX11_ask_160 5 rfl ?_
        refine g_istore_n X dX11_ask_162 rfl (by decide) (lv' := [(3, .int w16), (2, .int z4), (0, .ref (be θ + 565)), (1, .int x1), (4, .int z4), (5, .int w16)]) rfl ?_
        refine g_iinc X dX11_ask_163 (kq := 4) rfl (congrArg (HAdd.hAdd _) ic_1) (by decide) (lv' := [(4, .int (z4 + (1 : Int32))), (3, .int w16), (2, .int z4), (0, .ref (be θ + 565)), (1, .int x1), (5, .int w16)]) rfl ?_
        refine g_goto (tgt := 30) X dX11_ask_166 (by decide) ?_
        have hk := inl_hk h hk
        exact g_sub (lv' := [(0, .ref (be θ + 565)), (1, .int x1), (2, .int z4), (3, .int w16), (4, .int (z4 + (1 : Int32)))]) [3, 4, 2, 1, 0] rfl hk
      · replace h := (if_neg c18).symm.trans h
        refine g_goto (tgt := 163) X dX11_ask_154 (by decide) ?_
        refine g_iinc X dX11_ask_163 (kq := 4) rfl (congrArg (HAdd.hAdd _) ic_1) (by decide) (lv' := [(4, .int (z4 + (1 : Int32))), (0, .ref (be θ + 565)), (1, .int x1), (2, .int z2), (3, .int z3), (5, .int w16)]) rfl ?_
        refine g_goto (tgt := 30) X dX11_ask_166 (by decide) ?_
        have hk := inl_hk h hk
        exact g_sub (lv' := [(0, .ref (be θ + 565)), (1, .int x1), (2, .int z2), (3, .int z3), (4, .int (z4 + (1 : Int32)))]) [1, 2, 3, 4, 0] rfl hk
set_option maxHeartbeats 4000000 in
set_option maxRecDepth 20000 in
theorem gl_Model_ask_L30 (X : Cx θ p s m args c cX11_ask 9 RX11) (hr : meth.sig.returnType = some .int) (hlk : meth.locks = false)  {σ : Mem} {x1 : Int32} {r : Int32 × Mem}  (n : Nat) (a : Int32 × Int32 × Int32) (b : Int32 × Mem) (h : loopF (f_Model_ask_L30 σ x1) n a = some b) (hk : (fun b => b = r) b) : (fun a => @Prod.casesOn (Int32) (Int32 × Int32) (fun _ => Prop) a fun z2 b0 => @Prod.casesOn (Int32) (Int32) (fun _ => Prop) b0 fun z3 z4 => GB θ p l e 67 s m args below meth c 9 (some (.int r.1), r.2) 30 [(0, .ref (be θ + 565)), (1, .int x1), (2, .int z2), (3, .int z3), (4, .int z4)] [] σ) a :=
  loopF_by (P := (fun a => @Prod.casesOn (Int32) (Int32 × Int32) (fun _ => Prop) a fun z2 b0 => @Prod.casesOn (Int32) (Int32) (fun _ => Prop) b0 fun z3 z4 => GB θ p l e 67 s m args below meth c 9 (some (.int r.1), r.2) 30 [(0, .ref (be θ + 565)), (1, .int x1), (2, .int z2), (3, .int z3), (4, .int z4)] [] σ)) (K := (fun b => b = r)) (fun a x h hk => by obtain ⟨z2, z3, z4⟩ := a; exact gs_Model_ask_L30 X hr hlk   z2 z3 z4 x h hk) n a b h hk
set_option maxHeartbeats 4000000 in
set_option maxRecDepth 20000 in
theorem g_Model_ask (X : Cx θ p s m args c cX11_ask 9 RX11) (hr : meth.sig.returnType = some .int) (hlk : meth.locks = false)  {σ : Mem} {x1 : Int32} {r : Int32 × Mem}  (h : f_Model_ask σ x1 = some r) : GB θ p l e 67 s m args below meth c 9 (some (.int r.1), r.2) 0 [(0, .ref (be θ + 565)), (1, .int x1)] [] σ := by
  unfold f_Model_ask at h
  refine g_aload_n X dX11_ask_0 rfl 0 rfl ?_
  refine g_iconst X dX11_ask_1 (v := (0 : Int32)) ic_0 ?_
  refine g_putI X fl_RX11_112 dX11_ask_2 kd_565 rfl rfl rfl ?_
  refine g_aload_n X dX11_ask_5 rfl 0 rfl ?_
  refine g_iload_n X dX11_ask_6 rfl 1 rfl ?_
  obtain ⟨q1, hq1, h⟩ := Option.bind_eq_some_iff.mp h
  refine g_cV X (c_Model_isBuyer  hq1) lk_RX11_412 my_X11_isBuyer (a := 565) (ci := 11) kd_565 (by decide) rfl (As := [.int x1]) (rest := []) rfl rfl (Nat.le_of_ble_eq_true rfl) ⟨(Nat.le_of_ble_eq_true rfl), (Nat.le_of_ble_eq_true rfl)⟩ ⟨(Nat.le_of_ble_eq_true rfl), (Nat.le_of_ble_eq_true rfl)⟩ dX11_ask_7 (st' := [.int q1]) (σ' := (sI σ 565 0 (0 : Int32))) rfl rfl ?_
  refine g_if_eq (tgt := 21) X dX11_ask_10 (by decide) (fun c2 => ?_) (fun c2 => ?_)
  · replace h := (if_pos c2).symm.trans h
    refine g_iconst X dX11_ask_21 (v := (-1 : Int32)) ic_m1 ?_
    exact g_iret X hr hlk dX11_ask_22 (by cases h; rfl)
  · replace h := (if_neg c2).symm.trans h
    refine g_aload_n X dX11_ask_13 rfl 0 rfl ?_
    refine g_iload_n X dX11_ask_14 rfl 1 rfl ?_
    obtain ⟨q3, hq3, h⟩ := Option.bind_eq_some_iff.mp h
    refine g_cV X (c_Model_laysDesires  hq3) lk_RX11_497 my_X11_laysDesires (a := 565) (ci := 11) kd_565 (by decide) rfl (As := [.int x1]) (rest := []) rfl rfl (Nat.le_of_ble_eq_true rfl) ⟨(Nat.le_of_ble_eq_true rfl), (Nat.le_of_ble_eq_true rfl)⟩ ⟨(Nat.le_of_ble_eq_true rfl), (Nat.le_of_ble_eq_true rfl)⟩ dX11_ask_15 (st' := [.int q3.1]) (σ' := q3.2) rfl rfl ?_
    refine g_if_ne (tgt := 23) X dX11_ask_18 (by decide) (fun c4 => ?_) (fun c4 => ?_)
    · replace h := (if_neg c4).symm.trans h
      refine g_iconst X dX11_ask_23 (v := (-1 : Int32)) ic_m1 ?_
      refine g_istore_n X dX11_ask_24 rfl (by decide) (lv' := [(2, .int (-1 : Int32)), (0, .ref (be θ + 565)), (1, .int x1)]) rfl ?_
      refine g_iconst X dX11_ask_25 (v := (0 : Int32)) ic_0 ?_
      refine g_istore_n X dX11_ask_26 rfl (by decide) (lv' := [(3, .int (0 : Int32)), (2, .int (-1 : Int32)), (0, .ref (be θ + 565)), (1, .int x1)]) rfl ?_
      refine g_iconst X dX11_ask_27 (v := (1 : Int32)) ic_1 ?_
      refine g_istore X dX11_ask_28 (by decide) (lv' := [(4, .int (1 : Int32)), (3, .int (0 : Int32)), (2, .int (-1 : Int32)), (0, .ref (be θ + 565)), (1, .int x1)]) rfl ?_
      exact g_sub (lv' := [(0, .ref (be θ + 565)), (1, .int x1), (2, .int (-1 : Int32)), (3, .int (0 : Int32)), (4, .int (1 : Int32))]) [3, 4, 2, 1, 0] rfl (gl_Model_ask_L30 X hr hlk    FU _ _ h rfl)
    · replace h := (if_pos c4).symm.trans h
      refine g_iconst X dX11_ask_21 (v := (-1 : Int32)) ic_m1 ?_
      exact g_iret X hr hlk dX11_ask_22 (by cases h; rfl)
set_option maxHeartbeats 4000000 in
set_option maxRecDepth 20000 in
theorem c_Model_ask {θ : Th} {l : Launch} {σ : Mem} {x1 : Int32} {r : Int32 × Mem}  (h : f_Model_ask σ x1 = some r) : Cn θ l yX11_ask cX11_ask 9 (some .int) 67 0 0 [.ref (be θ + 565), .int x1] σ (some (.int r.1), r.2) :=
  Cn.of (by decide) (Nat.le_of_ble_eq_true rfl) (fun p e s m below meth c X hr hlk => g_Model_ask X hr hlk  h)
theorem dX11_gameOf_0 : decode cX11_gameOf 0 = .ok (.aload_n 0, 1) := by decide +kernel
theorem dX11_gameOf_1 : decode cX11_gameOf 1 = .ok (.getfield 43, 3) := by decide +kernel
theorem dX11_gameOf_4 : decode cX11_gameOf 4 = .ok (.iconst 3, 1) := by decide +kernel
theorem dX11_gameOf_5 : decode cX11_gameOf 5 = .ok (.iload_n 2, 1) := by decide +kernel
theorem dX11_gameOf_6 : decode cX11_gameOf 6 = .ok (.imul, 1) := by decide +kernel
theorem dX11_gameOf_7 : decode cX11_gameOf 7 = .ok (.iaload, 1) := by decide +kernel
theorem dX11_gameOf_8 : decode cX11_gameOf 8 = .ok (.aload_n 0, 1) := by decide +kernel
theorem dX11_gameOf_9 : decode cX11_gameOf 9 = .ok (.getfield 43, 3) := by decide +kernel
theorem dX11_gameOf_12 : decode cX11_gameOf 12 = .ok (.iconst 3, 1) := by decide +kernel
theorem dX11_gameOf_13 : decode cX11_gameOf 13 = .ok (.iload_n 2, 1) := by decide +kernel
theorem dX11_gameOf_14 : decode cX11_gameOf 14 = .ok (.imul, 1) := by decide +kernel
theorem dX11_gameOf_15 : decode cX11_gameOf 15 = .ok (.iaload, 1) := by decide +kernel
theorem dX11_gameOf_16 : decode cX11_gameOf 16 = .ok (.iload_n 3, 1) := by decide +kernel
theorem dX11_gameOf_17 : decode cX11_gameOf 17 = .ok (.imul, 1) := by decide +kernel
theorem dX11_gameOf_18 : decode cX11_gameOf 18 = .ok (.bipush 10, 2) := by decide +kernel
theorem dX11_gameOf_20 : decode cX11_gameOf 20 = .ok (.idiv, 1) := by decide +kernel
theorem dX11_gameOf_21 : decode cX11_gameOf 21 = .ok (.isub, 1) := by decide +kernel
theorem dX11_gameOf_22 : decode cX11_gameOf 22 = .ok (.istore 6, 2) := by decide +kernel
theorem dX11_gameOf_24 : decode cX11_gameOf 24 = .ok (.aload_n 0, 1) := by decide +kernel
theorem dX11_gameOf_25 : decode cX11_gameOf 25 = .ok (.aload_n 0, 1) := by decide +kernel
theorem dX11_gameOf_26 : decode cX11_gameOf 26 = .ok (.getfield 61, 3) := by decide +kernel
theorem dX11_gameOf_29 : decode cX11_gameOf 29 = .ok (.iload_n 1, 1) := by decide +kernel
theorem dX11_gameOf_30 : decode cX11_gameOf 30 = .ok (.iload_n 2, 1) := by decide +kernel
theorem dX11_gameOf_31 : decode cX11_gameOf 31 = .ok (.invokevirtual 373, 3) := by decide +kernel
theorem dX11_gameOf_34 : decode cX11_gameOf 34 = .ok (.istore 7, 2) := by decide +kernel
theorem dX11_gameOf_36 : decode cX11_gameOf 36 = .ok (.iload 4, 2) := by decide +kernel
theorem dX11_gameOf_38 : decode cX11_gameOf 38 = .ok (.ifCond .ne 5, 3) := by decide +kernel
theorem dX11_gameOf_41 : decode cX11_gameOf 41 = .ok (.iconst 0, 1) := by decide +kernel
theorem dX11_gameOf_42 : decode cX11_gameOf 42 = .ok (.ireturn, 1) := by decide +kernel
theorem dX11_gameOf_43 : decode cX11_gameOf 43 = .ok (.iload 4, 2) := by decide +kernel
theorem dX11_gameOf_45 : decode cX11_gameOf 45 = .ok (.iconst 1, 1) := by decide +kernel
theorem dX11_gameOf_46 : decode cX11_gameOf 46 = .ok (.if_icmp .ne 19, 3) := by decide +kernel
theorem dX11_gameOf_49 : decode cX11_gameOf 49 = .ok (.iload 5, 2) := by decide +kernel
theorem dX11_gameOf_51 : decode cX11_gameOf 51 = .ok (.ifCond .ne 8, 3) := by decide +kernel
theorem dX11_gameOf_54 : decode cX11_gameOf 54 = .ok (.iload 6, 2) := by decide +kernel
theorem dX11_gameOf_56 : decode cX11_gameOf 56 = .ok (.goto 8, 3) := by decide +kernel
theorem dX11_gameOf_59 : decode cX11_gameOf 59 = .ok (.iload 7, 2) := by decide +kernel
theorem dX11_gameOf_61 : decode cX11_gameOf 61 = .ok (.iload 6, 2) := by decide +kernel
theorem dX11_gameOf_63 : decode cX11_gameOf 63 = .ok (.isub, 1) := by decide +kernel
theorem dX11_gameOf_64 : decode cX11_gameOf 64 = .ok (.ireturn, 1) := by decide +kernel
theorem dX11_gameOf_65 : decode cX11_gameOf 65 = .ok (.iload 5, 2) := by decide +kernel
theorem dX11_gameOf_67 : decode cX11_gameOf 67 = .ok (.ifCond .ne 7, 3) := by decide +kernel
theorem dX11_gameOf_70 : decode cX11_gameOf 70 = .ok (.iconst 1, 1) := by decide +kernel
theorem dX11_gameOf_71 : decode cX11_gameOf 71 = .ok (.goto 18, 3) := by decide +kernel
theorem dX11_gameOf_74 : decode cX11_gameOf 74 = .ok (.iload 7, 2) := by decide +kernel
theorem dX11_gameOf_76 : decode cX11_gameOf 76 = .ok (.iconst 4, 1) := by decide +kernel
theorem dX11_gameOf_77 : decode cX11_gameOf 77 = .ok (.idiv, 1) := by decide +kernel
theorem dX11_gameOf_78 : decode cX11_gameOf 78 = .ok (.aload_n 0, 1) := by decide +kernel
theorem dX11_gameOf_79 : decode cX11_gameOf 79 = .ok (.aload_n 0, 1) := by decide +kernel
theorem dX11_gameOf_80 : decode cX11_gameOf 80 = .ok (.getfield 61, 3) := by decide +kernel
theorem dX11_gameOf_83 : decode cX11_gameOf 83 = .ok (.iload_n 1, 1) := by decide +kernel
theorem dX11_gameOf_84 : decode cX11_gameOf 84 = .ok (.iload_n 2, 1) := by decide +kernel
theorem dX11_gameOf_85 : decode cX11_gameOf 85 = .ok (.invokevirtual 365, 3) := by decide +kernel
theorem dX11_gameOf_88 : decode cX11_gameOf 88 = .ok (.isub, 1) := by decide +kernel
theorem dX11_gameOf_89 : decode cX11_gameOf 89 = .ok (.ireturn, 1) := by decide +kernel
def f_Model_gameOf (σ : Mem) (x1 : Int32) (x2 : Int32) (x3 : Int32) (x4 : Int32) (x5 : Int32) : Option (Int32 × Mem) :=
  if inb ((3 : Int32) * x2) 24 then
    (f_Model_likingOf σ 578 x1 x2).bind fun q2 =>
    if x4 = (0 : Int32) then
      some ((0 : Int32), q2.2)
    else
      if x4 = (1 : Int32) then
        if x5 = (0 : Int32) then
          some (((mI σ 572 ((3 : Int32) * x2).toNatClampNeg) - (((mI σ 572 ((3 : Int32) * x2).toNatClampNeg) * x3) / (10 : Int32))), q2.2)
        else
          some ((q2.1 - ((mI σ 572 ((3 : Int32) * x2).toNatClampNeg) - (((mI σ 572 ((3 : Int32) * x2).toNatClampNeg) * x3) / (10 : Int32)))), q2.2)
      else
        if x5 = (0 : Int32) then
          some ((1 : Int32), q2.2)
        else
          (f_Model_dueFor q2.2 578 x1 x2).bind fun q6 =>
          some (((q2.1 / (4 : Int32)) - q6), q2.2)
  else none
set_option maxHeartbeats 4000000 in
set_option maxRecDepth 20000 in
theorem g_Model_gameOf (X : Cx θ p s m args c cX11_gameOf 8 RX11) (hr : meth.sig.returnType = some .int) (hlk : meth.locks = false)  {σ : Mem} {x1 : Int32} {x2 : Int32} {x3 : Int32} {x4 : Int32} {x5 : Int32} {r : Int32 × Mem}  (h : f_Model_gameOf σ x1 x2 x3 x4 x5 = some r) : GB θ p l e 64 s m args below meth c 8 (some (.int r.1), r.2) 0 [(0, .ref (be θ + 565)), (1, .int x1), (2, .int x2), (3, .int x3), (4, .int x4), (5, .int x5)] [] σ := by
  unfold f_Model_gameOf at h
  refine g_aload_n X dX11_gameOf_0 rfl 0 rfl ?_
  refine g_get X fl_RX11_43 dX11_gameOf_1 kd_565 (v := .ref (be θ + 572)) rfl ?_
  refine g_iconst X dX11_gameOf_4 (v := (3 : Int32)) ic_3 ?_
  refine g_iload_n X dX11_gameOf_5 rfl 2 rfl ?_
  refine g_imul X dX11_gameOf_6 ?_
  obtain ⟨g1, h⟩ := ite_some h
  refine g_iald X kd_572 ln_572 (inb_in g1) dX11_gameOf_7 ?_
  refine g_aload_n X dX11_gameOf_8 rfl 0 rfl ?_
  refine g_get X fl_RX11_43 dX11_gameOf_9 kd_565 (v := .ref (be θ + 572)) rfl ?_
  refine g_iconst X dX11_gameOf_12 (v := (3 : Int32)) ic_3 ?_
  refine g_iload_n X dX11_gameOf_13 rfl 2 rfl ?_
  refine g_imul X dX11_gameOf_14 ?_
  refine g_iald X kd_572 ln_572 (inb_in g1) dX11_gameOf_15 ?_
  refine g_iload_n X dX11_gameOf_16 rfl 3 rfl ?_
  refine g_imul X dX11_gameOf_17 ?_
  refine g_bipush X dX11_gameOf_18 (v := (10 : Int32)) bp_10 ?_
  refine g_idiv X dX11_gameOf_20 (by decide) ?_
  refine g_isub X dX11_gameOf_21 ?_
  refine g_istore X dX11_gameOf_22 (by decide) (lv' := [(6, .int ((mI σ 572 ((3 : Int32) * x2).toNatClampNeg) - (((mI σ 572 ((3 : Int32) * x2).toNatClampNeg) * x3) / (10 : Int32)))), (0, .ref (be θ + 565)), (1, .int x1), (2, .int x2), (3, .int x3), (4, .int x4), (5, .int x5)]) rfl ?_
  refine g_aload_n X dX11_gameOf_24 rfl 1 rfl ?_
  refine g_aload_n X dX11_gameOf_25 rfl 1 rfl ?_
  refine g_get X fl_RX11_61 dX11_gameOf_26 kd_565 (v := .ref (be θ + 578)) rfl ?_
  refine g_iload_n X dX11_gameOf_29 rfl 2 rfl ?_
  refine g_iload_n X dX11_gameOf_30 rfl 3 rfl ?_
  obtain ⟨q2, hq2, h⟩ := Option.bind_eq_some_iff.mp h
  refine g_cV X (c_Model_likingOf kd_578 hq2) lk_RX11_373 my_X11_likingOf (a := 565) (ci := 11) kd_565 (by decide) rfl (As := [.ref (be θ + 578), .int x1, .int x2]) (rest := []) rfl rfl (Nat.le_of_ble_eq_true rfl) ⟨(Nat.le_of_ble_eq_true rfl), (Nat.le_of_ble_eq_true rfl)⟩ ⟨(Nat.le_of_ble_eq_true rfl), (Nat.le_of_ble_eq_true rfl)⟩ dX11_gameOf_31 (st' := [.int q2.1]) (σ' := q2.2) rfl rfl ?_
  refine g_istore X dX11_gameOf_34 (by decide) (lv' := [(7, .int q2.1), (6, .int ((mI σ 572 ((3 : Int32) * x2).toNatClampNeg) - (((mI σ 572 ((3 : Int32) * x2).toNatClampNeg) * x3) / (10 : Int32)))), (0, .ref (be θ + 565)), (1, .int x1), (2, .int x2), (3, .int x3), (4, .int x4), (5, .int x5)]) rfl ?_
  refine g_iload X dX11_gameOf_36 6 rfl ?_
  refine g_if_ne (tgt := 43) X dX11_gameOf_38 (by decide) (fun c3 => ?_) (fun c3 => ?_)
  · replace h := (if_neg c3).symm.trans h
    refine g_iload X dX11_gameOf_43 6 rfl ?_
    refine g_iconst X dX11_gameOf_45 (v := (1 : Int32)) ic_1 ?_
    refine g_icmp_ne (tgt := 65) X dX11_gameOf_46 (by decide) (fun c4 => ?_) (fun c4 => ?_)
    · replace h := (if_neg c4).symm.trans h
      refine g_iload X dX11_gameOf_65 7 rfl ?_
      refine g_if_ne (tgt := 74) X dX11_gameOf_67 (by decide) (fun c5 => ?_) (fun c5 => ?_)
      · replace h := (if_neg c5).symm.trans h
        refine g_iload X dX11_gameOf_74 0 rfl ?_
        refine g_iconst X dX11_gameOf_76 (v := (4 : Int32)) ic_4 ?_
        refine g_idiv X dX11_gameOf_77 (by decide) ?_
        refine g_aload_n X dX11_gameOf_78 rfl 2 rfl ?_
        refine g_aload_n X dX11_gameOf_79 rfl 2 rfl ?_
        refine g_get X fl_RX11_61 dX11_gameOf_80 kd_565 (v := .ref (be θ + 578)) rfl ?_
        refine g_iload_n X dX11_gameOf_83 rfl 3 rfl ?_
        refine g_iload_n X dX11_gameOf_84 rfl 4 rfl ?_
        obtain ⟨q6, hq6, h⟩ := Option.bind_eq_some_iff.mp h
        refine g_cV X (c_Model_dueFor kd_578 hq6) lk_RX11_365 my_X11_dueFor (a := 565) (ci := 11) kd_565 (by decide) rfl (As := [.ref (be θ + 578), .int x1, .int x2]) (rest := [.int (q2.1 / (4 : Int32))]) rfl rfl (Nat.le_of_ble_eq_true rfl) ⟨(Nat.le_of_ble_eq_true rfl), (Nat.le_of_ble_eq_true rfl)⟩ ⟨(Nat.le_of_ble_eq_true rfl), (Nat.le_of_ble_eq_true rfl)⟩ dX11_gameOf_85 (st' := [.int q6, .int (q2.1 / (4 : Int32))]) (σ' := q2.2) rfl rfl ?_
        refine g_isub X dX11_gameOf_88 ?_
        exact g_iret X hr hlk dX11_gameOf_89 (by cases h; rfl)
      · replace h := (if_pos c5).symm.trans h
        refine g_iconst X dX11_gameOf_70 (v := (1 : Int32)) ic_1 ?_
        refine g_goto (tgt := 89) X dX11_gameOf_71 (by decide) ?_
        exact g_iret X hr hlk dX11_gameOf_89 (by cases h; rfl)
    · replace h := (if_pos c4).symm.trans h
      refine g_iload X dX11_gameOf_49 7 rfl ?_
      refine g_if_ne (tgt := 59) X dX11_gameOf_51 (by decide) (fun c7 => ?_) (fun c7 => ?_)
      · replace h := (if_neg c7).symm.trans h
        refine g_iload X dX11_gameOf_59 0 rfl ?_
        refine g_iload X dX11_gameOf_61 1 rfl ?_
        refine g_isub X dX11_gameOf_63 ?_
        exact g_iret X hr hlk dX11_gameOf_64 (by cases h; rfl)
      · replace h := (if_pos c7).symm.trans h
        refine g_iload X dX11_gameOf_54 1 rfl ?_
        refine g_goto (tgt := 64) X dX11_gameOf_56 (by decide) ?_
        exact g_iret X hr hlk dX11_gameOf_64 (by cases h; rfl)
  · replace h := (if_pos c3).symm.trans h
    refine g_iconst X dX11_gameOf_41 (v := (0 : Int32)) ic_0 ?_
    exact g_iret X hr hlk dX11_gameOf_42 (by cases h; rfl)
set_option maxHeartbeats 4000000 in
set_option maxRecDepth 20000 in
theorem c_Model_gameOf {θ : Th} {l : Launch} {σ : Mem} {x1 : Int32} {x2 : Int32} {x3 : Int32} {x4 : Int32} {x5 : Int32} {r : Int32 × Mem}  (h : f_Model_gameOf σ x1 x2 x3 x4 x5 = some r) : Cn θ l yX11_gameOf cX11_gameOf 8 (some .int) 64 0 0 [.ref (be θ + 565), .int x1, .int x2, .int x3, .int x4, .int x5] σ (some (.int r.1), r.2) :=
  Cn.of (by decide) (Nat.le_of_ble_eq_true rfl) (fun p e s m below meth c X hr hlk => g_Model_gameOf X hr hlk  h)
theorem dX11_canPlay_0 : decode cX11_canPlay 0 = .ok (.aload_n 0, 1) := by decide +kernel
theorem dX11_canPlay_1 : decode cX11_canPlay 1 = .ok (.iload_n 1, 1) := by decide +kernel
theorem dX11_canPlay_2 : decode cX11_canPlay 2 = .ok (.invokevirtual 412, 3) := by decide +kernel
theorem dX11_canPlay_5 : decode cX11_canPlay 5 = .ok (.ifCond .eq 27, 3) := by decide +kernel
theorem dX11_canPlay_8 : decode cX11_canPlay 8 = .ok (.aload_n 0, 1) := by decide +kernel
theorem dX11_canPlay_9 : decode cX11_canPlay 9 = .ok (.iload_n 2, 1) := by decide +kernel
theorem dX11_canPlay_10 : decode cX11_canPlay 10 = .ok (.invokevirtual 326, 3) := by decide +kernel
theorem dX11_canPlay_13 : decode cX11_canPlay 13 = .ok (.ifCond .eq 19, 3) := by decide +kernel
theorem dX11_canPlay_16 : decode cX11_canPlay 16 = .ok (.aload_n 0, 1) := by decide +kernel
theorem dX11_canPlay_17 : decode cX11_canPlay 17 = .ok (.getfield 61, 3) := by decide +kernel
theorem dX11_canPlay_20 : decode cX11_canPlay 20 = .ok (.bipush 8, 2) := by decide +kernel
theorem dX11_canPlay_22 : decode cX11_canPlay 22 = .ok (.iload_n 2, 1) := by decide +kernel
theorem dX11_canPlay_23 : decode cX11_canPlay 23 = .ok (.iadd, 1) := by decide +kernel
theorem dX11_canPlay_24 : decode cX11_canPlay 24 = .ok (.iaload, 1) := by decide +kernel
theorem dX11_canPlay_25 : decode cX11_canPlay 25 = .ok (.ifCond .ne 7, 3) := by decide +kernel
theorem dX11_canPlay_28 : decode cX11_canPlay 28 = .ok (.iconst 1, 1) := by decide +kernel
theorem dX11_canPlay_29 : decode cX11_canPlay 29 = .ok (.goto 4, 3) := by decide +kernel
theorem dX11_canPlay_32 : decode cX11_canPlay 32 = .ok (.iconst 0, 1) := by decide +kernel
theorem dX11_canPlay_33 : decode cX11_canPlay 33 = .ok (.ireturn, 1) := by decide +kernel
def f_Model_canPlay (σ : Mem) (x1 : Int32) (x2 : Int32) : Option (Int32) :=
  (f_Model_isBuyer σ x1).bind fun q1 =>
  if q1 = (0 : Int32) then
    some (0 : Int32)
  else
    (f_Model_isThing σ x2).bind fun q3 =>
    if q3 = (0 : Int32) then
      some (0 : Int32)
    else
      if inb ((8 : Int32) + x2) 312 then
        if (mI σ 578 ((8 : Int32) + x2).toNatClampNeg) = (0 : Int32) then
          some (1 : Int32)
        else
          some (0 : Int32)
      else none
set_option maxHeartbeats 4000000 in
set_option maxRecDepth 20000 in
theorem g_Model_canPlay (X : Cx θ p s m args c cX11_canPlay 3 RX11) (hr : meth.sig.returnType = some .boolean) (hlk : meth.locks = false)  {σ : Mem} {x1 : Int32} {x2 : Int32} {r : Int32}  (h : f_Model_canPlay σ x1 x2 = some r) : GB θ p l e 1 s m args below meth c 3 (some (.int r), σ) 0 [(0, .ref (be θ + 565)), (1, .int x1), (2, .int x2)] [] σ := by
  unfold f_Model_canPlay at h
  refine g_aload_n X dX11_canPlay_0 rfl 0 rfl ?_
  refine g_iload_n X dX11_canPlay_1 rfl 1 rfl ?_
  obtain ⟨q1, hq1, h⟩ := Option.bind_eq_some_iff.mp h
  refine g_cV X (c_Model_isBuyer  hq1) lk_RX11_412 my_X11_isBuyer (a := 565) (ci := 11) kd_565 (by decide) rfl (As := [.int x1]) (rest := []) rfl rfl (Nat.le_of_ble_eq_true rfl) ⟨(Nat.le_of_ble_eq_true rfl), (Nat.le_of_ble_eq_true rfl)⟩ ⟨(Nat.le_of_ble_eq_true rfl), (Nat.le_of_ble_eq_true rfl)⟩ dX11_canPlay_2 (st' := [.int q1]) (σ' := σ) rfl rfl ?_
  refine g_if_eq (tgt := 32) X dX11_canPlay_5 (by decide) (fun c2 => ?_) (fun c2 => ?_)
  · replace h := (if_pos c2).symm.trans h
    refine g_iconst X dX11_canPlay_32 (v := (0 : Int32)) ic_0 ?_
    exact g_zret X hr hlk bz0 dX11_canPlay_33 (by cases h; rfl)
  · replace h := (if_neg c2).symm.trans h
    refine g_aload_n X dX11_canPlay_8 rfl 0 rfl ?_
    refine g_iload_n X dX11_canPlay_9 rfl 2 rfl ?_
    obtain ⟨q3, hq3, h⟩ := Option.bind_eq_some_iff.mp h
    refine g_cV X (c_Model_isThing  hq3) lk_RX11_326 my_X11_isThing (a := 565) (ci := 11) kd_565 (by decide) rfl (As := [.int x2]) (rest := []) rfl rfl (Nat.le_of_ble_eq_true rfl) ⟨(Nat.le_of_ble_eq_true rfl), (Nat.le_of_ble_eq_true rfl)⟩ ⟨(Nat.le_of_ble_eq_true rfl), (Nat.le_of_ble_eq_true rfl)⟩ dX11_canPlay_10 (st' := [.int q3]) (σ' := σ) rfl rfl ?_
    refine g_if_eq (tgt := 32) X dX11_canPlay_13 (by decide) (fun c4 => ?_) (fun c4 => ?_)
    · replace h := (if_pos c4).symm.trans h
      refine g_iconst X dX11_canPlay_32 (v := (0 : Int32)) ic_0 ?_
      exact g_zret X hr hlk bz0 dX11_canPlay_33 (by cases h; rfl)
    · replace h := (if_neg c4).symm.trans h
      refine g_aload_n X dX11_canPlay_16 rfl 0 rfl ?_
      refine g_get X fl_RX11_61 dX11_canPlay_17 kd_565 (v := .ref (be θ + 578)) rfl ?_
      refine g_bipush X dX11_canPlay_20 (v := (8 : Int32)) bp_8 ?_
      refine g_iload_n X dX11_canPlay_22 rfl 2 rfl ?_
      refine g_iadd X dX11_canPlay_23 ?_
      obtain ⟨g5, h⟩ := ite_some h
      refine g_iald X kd_578 ln_578 (inb_in g5) dX11_canPlay_24 ?_
      refine g_if_ne (tgt := 32) X dX11_canPlay_25 (by decide) (fun c6 => ?_) (fun c6 => ?_)
      · replace h := (if_neg c6).symm.trans h
        refine g_iconst X dX11_canPlay_32 (v := (0 : Int32)) ic_0 ?_
        exact g_zret X hr hlk bz0 dX11_canPlay_33 (by cases h; rfl)
      · replace h := (if_pos c6).symm.trans h
        refine g_iconst X dX11_canPlay_28 (v := (1 : Int32)) ic_1 ?_
        refine g_goto (tgt := 33) X dX11_canPlay_29 (by decide) ?_
        exact g_zret X hr hlk bz1 dX11_canPlay_33 (by cases h; rfl)
set_option maxHeartbeats 4000000 in
set_option maxRecDepth 20000 in
theorem c_Model_canPlay {θ : Th} {l : Launch} {σ : Mem} {x1 : Int32} {x2 : Int32} {r : Int32}  (h : f_Model_canPlay σ x1 x2 = some r) : Cn θ l yX11_canPlay cX11_canPlay 3 (some .boolean) 1 0 0 [.ref (be θ + 565), .int x1, .int x2] σ (some (.int r), σ) :=
  Cn.of (by decide) (Nat.le_of_ble_eq_true rfl) (fun p e s m below meth c X hr hlk => g_Model_canPlay X hr hlk  h)
theorem dX11_game_0 : decode cX11_game 0 = .ok (.aload_n 0, 1) := by decide +kernel
theorem dX11_game_1 : decode cX11_game 1 = .ok (.iconst 0, 1) := by decide +kernel
theorem dX11_game_2 : decode cX11_game 2 = .ok (.putfield 112, 3) := by decide +kernel
theorem dX11_game_5 : decode cX11_game 5 = .ok (.aload_n 0, 1) := by decide +kernel
theorem dX11_game_6 : decode cX11_game 6 = .ok (.iload_n 1, 1) := by decide +kernel
theorem dX11_game_7 : decode cX11_game 7 = .ok (.iload_n 2, 1) := by decide +kernel
theorem dX11_game_8 : decode cX11_game 8 = .ok (.invokevirtual 500, 3) := by decide +kernel
theorem dX11_game_11 : decode cX11_game 11 = .ok (.ifCond .eq 53, 3) := by decide +kernel
theorem dX11_game_14 : decode cX11_game 14 = .ok (.iload_n 3, 1) := by decide +kernel
theorem dX11_game_15 : decode cX11_game 15 = .ok (.i2l, 1) := by decide +kernel
theorem dX11_game_16 : decode cX11_game 16 = .ok (.lconst 0, 1) := by decide +kernel
theorem dX11_game_17 : decode cX11_game 17 = .ok (.ldc2_w 442, 3) := by decide +kernel
theorem dX11_game_20 : decode cX11_game 20 = .ok (.invokestatic 233, 3) := by decide +kernel
theorem dX11_game_23 : decode cX11_game 23 = .ok (.ifCond .eq 41, 3) := by decide +kernel
theorem dX11_game_26 : decode cX11_game 26 = .ok (.iload 4, 2) := by decide +kernel
theorem dX11_game_28 : decode cX11_game 28 = .ok (.i2l, 1) := by decide +kernel
theorem dX11_game_29 : decode cX11_game 29 = .ok (.lconst 0, 1) := by decide +kernel
theorem dX11_game_30 : decode cX11_game 30 = .ok (.ldc2_w 288, 3) := by decide +kernel
theorem dX11_game_33 : decode cX11_game 33 = .ok (.invokestatic 233, 3) := by decide +kernel
theorem dX11_game_36 : decode cX11_game 36 = .ok (.ifCond .eq 28, 3) := by decide +kernel
theorem dX11_game_39 : decode cX11_game 39 = .ok (.iload 5, 2) := by decide +kernel
theorem dX11_game_41 : decode cX11_game 41 = .ok (.i2l, 1) := by decide +kernel
theorem dX11_game_42 : decode cX11_game 42 = .ok (.lconst 0, 1) := by decide +kernel
theorem dX11_game_43 : decode cX11_game 43 = .ok (.lconst 1, 1) := by decide +kernel
theorem dX11_game_44 : decode cX11_game 44 = .ok (.invokestatic 233, 3) := by decide +kernel
theorem dX11_game_47 : decode cX11_game 47 = .ok (.ifCond .eq 17, 3) := by decide +kernel
theorem dX11_game_50 : decode cX11_game 50 = .ok (.aload_n 0, 1) := by decide +kernel
theorem dX11_game_51 : decode cX11_game 51 = .ok (.iload_n 1, 1) := by decide +kernel
theorem dX11_game_52 : decode cX11_game 52 = .ok (.iload_n 2, 1) := by decide +kernel
theorem dX11_game_53 : decode cX11_game 53 = .ok (.iload_n 3, 1) := by decide +kernel
theorem dX11_game_54 : decode cX11_game 54 = .ok (.iload 4, 2) := by decide +kernel
theorem dX11_game_56 : decode cX11_game 56 = .ok (.iload 5, 2) := by decide +kernel
theorem dX11_game_58 : decode cX11_game 58 = .ok (.invokevirtual 503, 3) := by decide +kernel
theorem dX11_game_61 : decode cX11_game 61 = .ok (.goto 6, 3) := by decide +kernel
theorem dX11_game_64 : decode cX11_game 64 = .ok (.ldc_w 411, 3) := by decide +kernel
theorem dX11_game_67 : decode cX11_game 67 = .ok (.ireturn, 1) := by decide +kernel
def f_Model_game (σ : Mem) (x1 : Int32) (x2 : Int32) (x3 : Int32) (x4 : Int32) (x5 : Int32) : Option (Int32 × Mem) :=
  (f_Model_canPlay (sI σ 565 0 (0 : Int32)) x1 x2).bind fun q1 =>
  if q1 = (0 : Int32) then
    some ((-1000000 : Int32), (sI σ 565 0 (0 : Int32)))
  else
    (f_Model_isIn (sI σ 565 0 (0 : Int32)) ((x3).toInt64) (0 : Int64) (3 : Int64)).bind fun q3 =>
    if q3 = (0 : Int32) then
      some ((-1000000 : Int32), (sI σ 565 0 (0 : Int32)))
    else
      (f_Model_isIn (sI σ 565 0 (0 : Int32)) ((x4).toInt64) (0 : Int64) (2 : Int64)).bind fun q5 =>
      if q5 = (0 : Int32) then
        some ((-1000000 : Int32), (sI σ 565 0 (0 : Int32)))
      else
        (f_Model_isIn (sI σ 565 0 (0 : Int32)) ((x5).toInt64) (0 : Int64) (1 : Int64)).bind fun q7 =>
        if q7 = (0 : Int32) then
          some ((-1000000 : Int32), (sI σ 565 0 (0 : Int32)))
        else
          (f_Model_gameOf (sI σ 565 0 (0 : Int32)) x1 x2 x3 x4 x5).bind fun q9 =>
          some (q9.1, q9.2)
set_option maxHeartbeats 4000000 in
set_option maxRecDepth 20000 in
theorem g_Model_game (X : Cx θ p s m args c cX11_game 6 RX11) (hr : meth.sig.returnType = some .int) (hlk : meth.locks = false)  {σ : Mem} {x1 : Int32} {x2 : Int32} {x3 : Int32} {x4 : Int32} {x5 : Int32} {r : Int32 × Mem}  (h : f_Model_game σ x1 x2 x3 x4 x5 = some r) : GB θ p l e 65 s m args below meth c 6 (some (.int r.1), r.2) 0 [(0, .ref (be θ + 565)), (1, .int x1), (2, .int x2), (3, .int x3), (4, .int x4), (5, .int x5)] [] σ := by
  unfold f_Model_game at h
  refine g_aload_n X dX11_game_0 rfl 0 rfl ?_
  refine g_iconst X dX11_game_1 (v := (0 : Int32)) ic_0 ?_
  refine g_putI X fl_RX11_112 dX11_game_2 kd_565 rfl rfl rfl ?_
  refine g_aload_n X dX11_game_5 rfl 0 rfl ?_
  refine g_iload_n X dX11_game_6 rfl 1 rfl ?_
  refine g_iload_n X dX11_game_7 rfl 2 rfl ?_
  obtain ⟨q1, hq1, h⟩ := Option.bind_eq_some_iff.mp h
  refine g_cV X (c_Model_canPlay  hq1) lk_RX11_500 my_X11_canPlay (a := 565) (ci := 11) kd_565 (by decide) rfl (As := [.int x1, .int x2]) (rest := []) rfl rfl (Nat.le_of_ble_eq_true rfl) ⟨(Nat.le_of_ble_eq_true rfl), (Nat.le_of_ble_eq_true rfl)⟩ ⟨(Nat.le_of_ble_eq_true rfl), (Nat.le_of_ble_eq_true rfl)⟩ dX11_game_8 (st' := [.int q1]) (σ' := (sI σ 565 0 (0 : Int32))) rfl rfl ?_
  refine g_if_eq (tgt := 64) X dX11_game_11 (by decide) (fun c2 => ?_) (fun c2 => ?_)
  · replace h := (if_pos c2).symm.trans h
    refine g_ldcw X cst_RX11_411 dX11_game_64 ?_
    exact g_iret X hr hlk dX11_game_67 (by cases h; rfl)
  · replace h := (if_neg c2).symm.trans h
    refine g_iload_n X dX11_game_14 rfl 3 rfl ?_
    refine g_i2l X dX11_game_15 (v := ((x3).toInt64)) rfl ?_
    refine g_lconst X dX11_game_16 (v := (0 : Int64)) rfl ?_
    refine g_ldc2 X cst_RX11_442 dX11_game_17 ?_
    obtain ⟨q3, hq3, h⟩ := Option.bind_eq_some_iff.mp h
    refine g_cS X (c_Model_isIn  hq3) lk_RX11_233 my_X11_isIn (As := [.long ((x3).toInt64), .long (0 : Int64), .long (3 : Int64)]) (rest := []) rfl rfl (Nat.le_of_ble_eq_true rfl) ⟨(Nat.le_of_ble_eq_true rfl), (Nat.le_of_ble_eq_true rfl)⟩ ⟨(Nat.le_of_ble_eq_true rfl), (Nat.le_of_ble_eq_true rfl)⟩ dX11_game_20 (st' := [.int q3]) (σ' := (sI σ 565 0 (0 : Int32))) rfl rfl ?_
    refine g_if_eq (tgt := 64) X dX11_game_23 (by decide) (fun c4 => ?_) (fun c4 => ?_)
    · replace h := (if_pos c4).symm.trans h
      refine g_ldcw X cst_RX11_411 dX11_game_64 ?_
      exact g_iret X hr hlk dX11_game_67 (by cases h; rfl)
    · replace h := (if_neg c4).symm.trans h
      refine g_iload X dX11_game_26 4 rfl ?_
      refine g_i2l X dX11_game_28 (v := ((x4).toInt64)) rfl ?_
      refine g_lconst X dX11_game_29 (v := (0 : Int64)) rfl ?_
      refine g_ldc2 X cst_RX11_288 dX11_game_30 ?_
      obtain ⟨q5, hq5, h⟩ := Option.bind_eq_some_iff.mp h
      refine g_cS X (c_Model_isIn  hq5) lk_RX11_233 my_X11_isIn (As := [.long ((x4).toInt64), .long (0 : Int64), .long (2 : Int64)]) (rest := []) rfl rfl (Nat.le_of_ble_eq_true rfl) ⟨(Nat.le_of_ble_eq_true rfl), (Nat.le_of_ble_eq_true rfl)⟩ ⟨(Nat.le_of_ble_eq_true rfl), (Nat.le_of_ble_eq_true rfl)⟩ dX11_game_33 (st' := [.int q5]) (σ' := (sI σ 565 0 (0 : Int32))) rfl rfl ?_
      refine g_if_eq (tgt := 64) X dX11_game_36 (by decide) (fun c6 => ?_) (fun c6 => ?_)
      · replace h := (if_pos c6).symm.trans h
        refine g_ldcw X cst_RX11_411 dX11_game_64 ?_
        exact g_iret X hr hlk dX11_game_67 (by cases h; rfl)
      · replace h := (if_neg c6).symm.trans h
        refine g_iload X dX11_game_39 5 rfl ?_
        refine g_i2l X dX11_game_41 (v := ((x5).toInt64)) rfl ?_
        refine g_lconst X dX11_game_42 (v := (0 : Int64)) rfl ?_
        refine g_lconst X dX11_game_43 (v := (1 : Int64)) rfl ?_
        obtain ⟨q7, hq7, h⟩ := Option.bind_eq_some_iff.mp h
        refine g_cS X (c_Model_isIn  hq7) lk_RX11_233 my_X11_isIn (As := [.long ((x5).toInt64), .long (0 : Int64), .long (1 : Int64)]) (rest := []) rfl rfl (Nat.le_of_ble_eq_true rfl) ⟨(Nat.le_of_ble_eq_true rfl), (Nat.le_of_ble_eq_true rfl)⟩ ⟨(Nat.le_of_ble_eq_true rfl), (Nat.le_of_ble_eq_true rfl)⟩ dX11_game_44 (st' := [.int q7]) (σ' := (sI σ 565 0 (0 : Int32))) rfl rfl ?_
        refine g_if_eq (tgt := 64) X dX11_game_47 (by decide) (fun c8 => ?_) (fun c8 => ?_)
        · replace h := (if_pos c8).symm.trans h
          refine g_ldcw X cst_RX11_411 dX11_game_64 ?_
          exact g_iret X hr hlk dX11_game_67 (by cases h; rfl)
        · replace h := (if_neg c8).symm.trans h
          refine g_aload_n X dX11_game_50 rfl 0 rfl ?_
          refine g_iload_n X dX11_game_51 rfl 1 rfl ?_
          refine g_iload_n X dX11_game_52 rfl 2 rfl ?_
          refine g_iload_n X dX11_game_53 rfl 3 rfl ?_
          refine g_iload X dX11_game_54 4 rfl ?_
          refine g_iload X dX11_game_56 5 rfl ?_
          obtain ⟨q9, hq9, h⟩ := Option.bind_eq_some_iff.mp h
          refine g_cV X (c_Model_gameOf  hq9) lk_RX11_503 my_X11_gameOf (a := 565) (ci := 11) kd_565 (by decide) rfl (As := [.int x1, .int x2, .int x3, .int x4, .int x5]) (rest := []) rfl rfl (Nat.le_of_ble_eq_true rfl) ⟨(Nat.le_of_ble_eq_true rfl), (Nat.le_of_ble_eq_true rfl)⟩ ⟨(Nat.le_of_ble_eq_true rfl), (Nat.le_of_ble_eq_true rfl)⟩ dX11_game_58 (st' := [.int q9.1]) (σ' := q9.2) rfl rfl ?_
          refine g_goto (tgt := 67) X dX11_game_61 (by decide) ?_
          exact g_iret X hr hlk dX11_game_67 (by cases h; rfl)
set_option maxHeartbeats 4000000 in
set_option maxRecDepth 20000 in
theorem c_Model_game {θ : Th} {l : Launch} {σ : Mem} {x1 : Int32} {x2 : Int32} {x3 : Int32} {x4 : Int32} {x5 : Int32} {r : Int32 × Mem}  (h : f_Model_game σ x1 x2 x3 x4 x5 = some r) : Cn θ l yX11_game cX11_game 6 (some .int) 65 0 0 [.ref (be θ + 565), .int x1, .int x2, .int x3, .int x4, .int x5] σ (some (.int r.1), r.2) :=
  Cn.of (by decide) (Nat.le_of_ble_eq_true rfl) (fun p e s m below meth c X hr hlk => g_Model_game X hr hlk  h)
theorem dX11_rests_0 : decode cX11_rests 0 = .ok (.aload_n 0, 1) := by decide +kernel
theorem dX11_rests_1 : decode cX11_rests 1 = .ok (.iconst 0, 1) := by decide +kernel
theorem dX11_rests_2 : decode cX11_rests 2 = .ok (.putfield 112, 3) := by decide +kernel
theorem dX11_rests_5 : decode cX11_rests 5 = .ok (.aload_n 0, 1) := by decide +kernel
theorem dX11_rests_6 : decode cX11_rests 6 = .ok (.iload_n 1, 1) := by decide +kernel
theorem dX11_rests_7 : decode cX11_rests 7 = .ok (.iload_n 2, 1) := by decide +kernel
theorem dX11_rests_8 : decode cX11_rests 8 = .ok (.invokevirtual 500, 3) := by decide +kernel
theorem dX11_rests_11 : decode cX11_rests 11 = .ok (.ifCond .eq 8, 3) := by decide +kernel
theorem dX11_rests_14 : decode cX11_rests 14 = .ok (.iload_n 3, 1) := by decide +kernel
theorem dX11_rests_15 : decode cX11_rests 15 = .ok (.iconst (-1), 1) := by decide +kernel
theorem dX11_rests_16 : decode cX11_rests 16 = .ok (.if_icmp .ge 5, 3) := by decide +kernel
theorem dX11_rests_19 : decode cX11_rests 19 = .ok (.iconst (-1), 1) := by decide +kernel
theorem dX11_rests_20 : decode cX11_rests 20 = .ok (.ireturn, 1) := by decide +kernel
theorem dX11_rests_21 : decode cX11_rests 21 = .ok (.iconst 0, 1) := by decide +kernel
theorem dX11_rests_22 : decode cX11_rests 22 = .ok (.istore 4, 2) := by decide +kernel
theorem dX11_rests_24 : decode cX11_rests 24 = .ok (.iconst 0, 1) := by decide +kernel
theorem dX11_rests_25 : decode cX11_rests 25 = .ok (.istore 5, 2) := by decide +kernel
theorem dX11_rests_27 : decode cX11_rests 27 = .ok (.iload 5, 2) := by decide +kernel
theorem dX11_rests_29 : decode cX11_rests 29 = .ok (.iconst 4, 1) := by decide +kernel
theorem dX11_rests_30 : decode cX11_rests 30 = .ok (.if_icmp .ge 157, 3) := by decide +kernel
theorem dX11_rests_33 : decode cX11_rests 33 = .ok (.iconst 0, 1) := by decide +kernel
theorem dX11_rests_34 : decode cX11_rests 34 = .ok (.istore 6, 2) := by decide +kernel
theorem dX11_rests_36 : decode cX11_rests 36 = .ok (.iload 6, 2) := by decide +kernel
theorem dX11_rests_38 : decode cX11_rests 38 = .ok (.iconst 3, 1) := by decide +kernel
theorem dX11_rests_39 : decode cX11_rests 39 = .ok (.if_icmp .ge 142, 3) := by decide +kernel
theorem dX11_rests_42 : decode cX11_rests 42 = .ok (.iconst 1, 1) := by decide +kernel
theorem dX11_rests_43 : decode cX11_rests 43 = .ok (.istore 7, 2) := by decide +kernel
theorem dX11_rests_45 : decode cX11_rests 45 = .ok (.iconst 0, 1) := by decide +kernel
theorem dX11_rests_46 : decode cX11_rests 46 = .ok (.istore 8, 2) := by decide +kernel
theorem dX11_rests_48 : decode cX11_rests 48 = .ok (.iload 8, 2) := by decide +kernel
theorem dX11_rests_50 : decode cX11_rests 50 = .ok (.iconst 4, 1) := by decide +kernel
theorem dX11_rests_51 : decode cX11_rests 51 = .ok (.if_icmp .ge 46, 3) := by decide +kernel
theorem dX11_rests_54 : decode cX11_rests 54 = .ok (.iload 7, 2) := by decide +kernel
theorem dX11_rests_56 : decode cX11_rests 56 = .ok (.ifCond .eq 32, 3) := by decide +kernel
theorem dX11_rests_59 : decode cX11_rests 59 = .ok (.aload_n 0, 1) := by decide +kernel
theorem dX11_rests_60 : decode cX11_rests 60 = .ok (.iload_n 1, 1) := by decide +kernel
theorem dX11_rests_61 : decode cX11_rests 61 = .ok (.iload_n 2, 1) := by decide +kernel
theorem dX11_rests_62 : decode cX11_rests 62 = .ok (.iload 8, 2) := by decide +kernel
theorem dX11_rests_64 : decode cX11_rests 64 = .ok (.iload 6, 2) := by decide +kernel
theorem dX11_rests_66 : decode cX11_rests 66 = .ok (.iconst 0, 1) := by decide +kernel
theorem dX11_rests_67 : decode cX11_rests 67 = .ok (.invokevirtual 503, 3) := by decide +kernel
theorem dX11_rests_70 : decode cX11_rests 70 = .ok (.aload_n 0, 1) := by decide +kernel
theorem dX11_rests_71 : decode cX11_rests 71 = .ok (.iload_n 1, 1) := by decide +kernel
theorem dX11_rests_72 : decode cX11_rests 72 = .ok (.iload_n 2, 1) := by decide +kernel
theorem dX11_rests_73 : decode cX11_rests 73 = .ok (.iload 5, 2) := by decide +kernel
theorem dX11_rests_75 : decode cX11_rests 75 = .ok (.iload 6, 2) := by decide +kernel
theorem dX11_rests_77 : decode cX11_rests 77 = .ok (.iconst 0, 1) := by decide +kernel
theorem dX11_rests_78 : decode cX11_rests 78 = .ok (.invokevirtual 503, 3) := by decide +kernel
theorem dX11_rests_81 : decode cX11_rests 81 = .ok (.if_icmp .gt 7, 3) := by decide +kernel
theorem dX11_rests_84 : decode cX11_rests 84 = .ok (.iconst 1, 1) := by decide +kernel
theorem dX11_rests_85 : decode cX11_rests 85 = .ok (.goto 4, 3) := by decide +kernel
theorem dX11_rests_88 : decode cX11_rests 88 = .ok (.iconst 0, 1) := by decide +kernel
theorem dX11_rests_89 : decode cX11_rests 89 = .ok (.istore 7, 2) := by decide +kernel
theorem dX11_rests_91 : decode cX11_rests 91 = .ok (.iinc 8 1, 3) := by decide +kernel
theorem dX11_rests_94 : decode cX11_rests 94 = .ok (.goto (-46), 3) := by decide +kernel
theorem dX11_rests_97 : decode cX11_rests 97 = .ok (.iconst 0, 1) := by decide +kernel
theorem dX11_rests_98 : decode cX11_rests 98 = .ok (.istore 8, 2) := by decide +kernel
theorem dX11_rests_100 : decode cX11_rests 100 = .ok (.iload 8, 2) := by decide +kernel
theorem dX11_rests_102 : decode cX11_rests 102 = .ok (.iconst 3, 1) := by decide +kernel
theorem dX11_rests_103 : decode cX11_rests 103 = .ok (.if_icmp .ge 46, 3) := by decide +kernel
theorem dX11_rests_106 : decode cX11_rests 106 = .ok (.iload 7, 2) := by decide +kernel
theorem dX11_rests_108 : decode cX11_rests 108 = .ok (.ifCond .eq 32, 3) := by decide +kernel
theorem dX11_rests_111 : decode cX11_rests 111 = .ok (.aload_n 0, 1) := by decide +kernel
theorem dX11_rests_112 : decode cX11_rests 112 = .ok (.iload_n 1, 1) := by decide +kernel
theorem dX11_rests_113 : decode cX11_rests 113 = .ok (.iload_n 2, 1) := by decide +kernel
theorem dX11_rests_114 : decode cX11_rests 114 = .ok (.iload 5, 2) := by decide +kernel
theorem dX11_rests_116 : decode cX11_rests 116 = .ok (.iload 8, 2) := by decide +kernel
theorem dX11_rests_118 : decode cX11_rests 118 = .ok (.iconst 1, 1) := by decide +kernel
theorem dX11_rests_119 : decode cX11_rests 119 = .ok (.invokevirtual 503, 3) := by decide +kernel
theorem dX11_rests_122 : decode cX11_rests 122 = .ok (.aload_n 0, 1) := by decide +kernel
theorem dX11_rests_123 : decode cX11_rests 123 = .ok (.iload_n 1, 1) := by decide +kernel
theorem dX11_rests_124 : decode cX11_rests 124 = .ok (.iload_n 2, 1) := by decide +kernel
theorem dX11_rests_125 : decode cX11_rests 125 = .ok (.iload 5, 2) := by decide +kernel
theorem dX11_rests_127 : decode cX11_rests 127 = .ok (.iload 6, 2) := by decide +kernel
theorem dX11_rests_129 : decode cX11_rests 129 = .ok (.iconst 1, 1) := by decide +kernel
theorem dX11_rests_130 : decode cX11_rests 130 = .ok (.invokevirtual 503, 3) := by decide +kernel
theorem dX11_rests_133 : decode cX11_rests 133 = .ok (.if_icmp .gt 7, 3) := by decide +kernel
theorem dX11_rests_136 : decode cX11_rests 136 = .ok (.iconst 1, 1) := by decide +kernel
theorem dX11_rests_137 : decode cX11_rests 137 = .ok (.goto 4, 3) := by decide +kernel
theorem dX11_rests_140 : decode cX11_rests 140 = .ok (.iconst 0, 1) := by decide +kernel
theorem dX11_rests_141 : decode cX11_rests 141 = .ok (.istore 7, 2) := by decide +kernel
theorem dX11_rests_143 : decode cX11_rests 143 = .ok (.iinc 8 1, 3) := by decide +kernel
theorem dX11_rests_146 : decode cX11_rests 146 = .ok (.goto (-46), 3) := by decide +kernel
theorem dX11_rests_149 : decode cX11_rests 149 = .ok (.iload 7, 2) := by decide +kernel
theorem dX11_rests_151 : decode cX11_rests 151 = .ok (.ifCond .ne 6, 3) := by decide +kernel
theorem dX11_rests_154 : decode cX11_rests 154 = .ok (.goto 21, 3) := by decide +kernel
theorem dX11_rests_157 : decode cX11_rests 157 = .ok (.iload 4, 2) := by decide +kernel
theorem dX11_rests_159 : decode cX11_rests 159 = .ok (.iload_n 3, 1) := by decide +kernel
theorem dX11_rests_160 : decode cX11_rests 160 = .ok (.if_icmp .ne 12, 3) := by decide +kernel
theorem dX11_rests_163 : decode cX11_rests 163 = .ok (.bipush 10, 2) := by decide +kernel
theorem dX11_rests_165 : decode cX11_rests 165 = .ok (.iload 5, 2) := by decide +kernel
theorem dX11_rests_167 : decode cX11_rests 167 = .ok (.imul, 1) := by decide +kernel
theorem dX11_rests_168 : decode cX11_rests 168 = .ok (.iload 6, 2) := by decide +kernel
theorem dX11_rests_170 : decode cX11_rests 170 = .ok (.iadd, 1) := by decide +kernel
theorem dX11_rests_171 : decode cX11_rests 171 = .ok (.ireturn, 1) := by decide +kernel
theorem dX11_rests_172 : decode cX11_rests 172 = .ok (.iinc 4 1, 3) := by decide +kernel
theorem dX11_rests_175 : decode cX11_rests 175 = .ok (.iinc 6 1, 3) := by decide +kernel
theorem dX11_rests_178 : decode cX11_rests 178 = .ok (.goto (-142), 3) := by decide +kernel
theorem dX11_rests_181 : decode cX11_rests 181 = .ok (.iinc 5 1, 3) := by decide +kernel
theorem dX11_rests_184 : decode cX11_rests 184 = .ok (.goto (-157), 3) := by decide +kernel
theorem dX11_rests_187 : decode cX11_rests 187 = .ok (.iload_n 3, 1) := by decide +kernel
theorem dX11_rests_188 : decode cX11_rests 188 = .ok (.iconst (-1), 1) := by decide +kernel
theorem dX11_rests_189 : decode cX11_rests 189 = .ok (.if_icmp .ne 8, 3) := by decide +kernel
theorem dX11_rests_192 : decode cX11_rests 192 = .ok (.iload 4, 2) := by decide +kernel
theorem dX11_rests_194 : decode cX11_rests 194 = .ok (.goto 4, 3) := by decide +kernel
theorem dX11_rests_197 : decode cX11_rests 197 = .ok (.iconst (-1), 1) := by decide +kernel
theorem dX11_rests_198 : decode cX11_rests 198 = .ok (.ireturn, 1) := by decide +kernel
def f_Model_rests_L48 (x1 : Int32) (x2 : Int32) (x3 : Int32) (y4 : Int32) (y5 : Int32) (y6 : Int32) (a : Mem × Int32 × Int32) : Option ((Mem × Int32 × Int32) ⊕ (Mem × Int32)) :=
  @Prod.casesOn (Mem) (Int32 × Int32) (fun _ => Option ((Mem × Int32 × Int32) ⊕ (Mem × Int32))) a fun τ b0 =>
  @Prod.casesOn (Int32) (Int32) (fun _ => Option ((Mem × Int32 × Int32) ⊕ (Mem × Int32))) b0 fun z7 z8 =>
  if (4 : Int32) ≤ z8 then
    some (.inr (τ, z7))
  else
    if z7 = (0 : Int32) then
      some (.inl (τ, (0 : Int32), (z8 + (1 : Int32))))
    else
      (f_Model_gameOf τ x1 x2 z8 y6 (0 : Int32)).bind fun q8 =>
      (f_Model_gameOf q8.2 x1 x2 y5 y6 (0 : Int32)).bind fun q9 =>
      if q9.1 < q8.1 then
        some (.inl (q9.2, (0 : Int32), (z8 + (1 : Int32))))
      else
        some (.inl (q9.2, (1 : Int32), (z8 + (1 : Int32))))
def f_Model_rests_L100 (x1 : Int32) (x2 : Int32) (x3 : Int32) (y4 : Int32) (y5 : Int32) (y6 : Int32) (a : Mem × Int32 × Int32) : Option ((Mem × Int32 × Int32) ⊕ (Mem × Int32)) :=
  @Prod.casesOn (Mem) (Int32 × Int32) (fun _ => Option ((Mem × Int32 × Int32) ⊕ (Mem × Int32))) a fun τ b0 =>
  @Prod.casesOn (Int32) (Int32) (fun _ => Option ((Mem × Int32 × Int32) ⊕ (Mem × Int32))) b0 fun z7 z8 =>
  if (3 : Int32) ≤ z8 then
    some (.inr (τ, z7))
  else
    if z7 = (0 : Int32) then
      some (.inl (τ, (0 : Int32), (z8 + (1 : Int32))))
    else
      (f_Model_gameOf τ x1 x2 y5 z8 (1 : Int32)).bind fun q14 =>
      (f_Model_gameOf q14.2 x1 x2 y5 y6 (1 : Int32)).bind fun q15 =>
      if q15.1 < q14.1 then
        some (.inl (q15.2, (0 : Int32), (z8 + (1 : Int32))))
      else
        some (.inl (q15.2, (1 : Int32), (z8 + (1 : Int32))))
def f_Model_rests_L36 (x1 : Int32) (x2 : Int32) (x3 : Int32) (y5 : Int32) (a : Mem × Int32 × Int32) : Option ((Mem × Int32 × Int32) ⊕ ((Mem × Int32) ⊕ (Int32 × Mem))) :=
  @Prod.casesOn (Mem) (Int32 × Int32) (fun _ => Option ((Mem × Int32 × Int32) ⊕ ((Mem × Int32) ⊕ (Int32 × Mem)))) a fun τ b0 =>
  @Prod.casesOn (Int32) (Int32) (fun _ => Option ((Mem × Int32 × Int32) ⊕ ((Mem × Int32) ⊕ (Int32 × Mem)))) b0 fun z4 z6 =>
  if (3 : Int32) ≤ z6 then
    some (.inr (.inl (τ, z4)))
  else
    (loopF (f_Model_rests_L48 x1 x2 x3 z4 y5 z6) FU (τ, (1 : Int32), (0 : Int32))).bind fun q11 =>
    @Prod.casesOn (Mem) (Int32) (fun _ => Option ((Mem × Int32 × Int32) ⊕ ((Mem × Int32) ⊕ (Int32 × Mem)))) q11 fun τ11 w11_7 =>
    (loopF (f_Model_rests_L100 x1 x2 x3 z4 y5 z6) FU (τ11, w11_7, (0 : Int32))).bind fun q17 =>
    @Prod.casesOn (Mem) (Int32) (fun _ => Option ((Mem × Int32 × Int32) ⊕ ((Mem × Int32) ⊕ (Int32 × Mem)))) q17 fun τ17 w17_7 =>
    if w17_7 = (0 : Int32) then
      some (.inl (τ17, z4, (z6 + (1 : Int32))))
    else
      if z4 = x3 then
        some (.inr (.inr ((((10 : Int32) * y5) + z6), τ17)))
      else
        some (.inl (τ17, (z4 + (1 : Int32)), (z6 + (1 : Int32))))
def f_Model_rests_L27 (x1 : Int32) (x2 : Int32) (x3 : Int32) (a : Mem × Int32 × Int32) : Option ((Mem × Int32 × Int32) ⊕ ((Mem × Int32) ⊕ (Int32 × Mem))) :=
  @Prod.casesOn (Mem) (Int32 × Int32) (fun _ => Option ((Mem × Int32 × Int32) ⊕ ((Mem × Int32) ⊕ (Int32 × Mem)))) a fun τ b0 =>
  @Prod.casesOn (Int32) (Int32) (fun _ => Option ((Mem × Int32 × Int32) ⊕ ((Mem × Int32) ⊕ (Int32 × Mem)))) b0 fun z4 z5 =>
  if (4 : Int32) ≤ z5 then
    some (.inr (.inl (τ, z4)))
  else
    (loopF (f_Model_rests_L36 x1 x2 x3 z5) FU (τ, z4, (0 : Int32))).bind fun q20 => Sum.elim (fun e20 =>
        @Prod.casesOn (Mem) (Int32) (fun _ => Option ((Mem × Int32 × Int32) ⊕ ((Mem × Int32) ⊕ (Int32 × Mem)))) e20 fun τ20 w20_4 =>
        some (.inl (τ20, w20_4, (z5 + (1 : Int32))))
        ) (fun t21 => some (.inr (.inr t21))) q20
def f_Model_rests (σ : Mem) (x1 : Int32) (x2 : Int32) (x3 : Int32) : Option (Int32 × Mem) :=
  (f_Model_canPlay (sI σ 565 0 (0 : Int32)) x1 x2).bind fun q1 =>
  if q1 = (0 : Int32) then
    some ((-1 : Int32), (sI σ 565 0 (0 : Int32)))
  else
    if (-1 : Int32) ≤ x3 then
      (loopF (f_Model_rests_L27 x1 x2 x3) FU ((sI σ 565 0 (0 : Int32)), (0 : Int32), (0 : Int32))).bind fun q22 => Sum.elim (fun e22 =>
          @Prod.casesOn (Mem) (Int32) (fun _ => Option (Int32 × Mem)) e22 fun τ22 w22_4 =>
          if x3 = (-1 : Int32) then
            some (w22_4, τ22)
          else
            some ((-1 : Int32), τ22)
          ) (fun t24 => some t24) q22
    else
      some ((-1 : Int32), (sI σ 565 0 (0 : Int32)))
set_option maxHeartbeats 4000000 in
set_option maxRecDepth 20000 in
theorem gs_Model_rests_L48 (X : Cx θ p s m args c cX11_rests 9 RX11) (hr : meth.sig.returnType = some .int) (hlk : meth.locks = false)  {x1 : Int32} {x2 : Int32} {x3 : Int32} {y4 : Int32} {y5 : Int32} {y6 : Int32} {r : Int32 × Mem}  (τ : Mem) (z7 : Int32) (z8 : Int32) (x : (Mem × Int32 × Int32) ⊕ (Mem × Int32)) (h : f_Model_rests_L48 x1 x2 x3 y4 y5 y6 (τ, z7, z8) = some x) (hk : Sum.elim (fun a => @Prod.casesOn (Mem) (Int32 × Int32) (fun _ => Prop) a fun τ b0 => @Prod.casesOn (Int32) (Int32) (fun _ => Prop) b0 fun z7 z8 => GB θ p l e 65 s m args below meth c 9 (some (.int r.1), r.2) 48 [(0, .ref (be θ + 565)), (1, .int x1), (2, .int x2), (3, .int x3), (4, .int y4), (5, .int y5), (6, .int y6), (7, .int z7), (8, .int z8)] [] τ) (fun ex => @Prod.casesOn (Mem) (Int32) (fun _ => Prop) ex fun τ w_7 => GB θ p l e 65 s m args below meth c 9 (some (.int r.1), r.2) 97 [(0, .ref (be θ + 565)), (1, .int x1), (2, .int x2), (3, .int x3), (4, .int y4), (5, .int y5), (6, .int y6), (7, .int w_7)] [] τ) x) : GB θ p l e 65 s m args below meth c 9 (some (.int r.1), r.2) 48 [(0, .ref (be θ + 565)), (1, .int x1), (2, .int x2), (3, .int x3), (4, .int y4), (5, .int y5), (6, .int y6), (7, .int z7), (8, .int z8)] [] τ := by
  unfold f_Model_rests_L48 at h
  dsimp only at h
  refine g_iload X dX11_rests_48 8 rfl ?_
  refine g_iconst X dX11_rests_50 (v := (4 : Int32)) ic_4 ?_
  refine g_icmp_ge (tgt := 97) X dX11_rests_51 (by decide) (fun c6 => ?_) (fun c6 => ?_)
  · replace h := (if_pos c6).symm.trans h
    have hk := inr_hk h hk
    exact g_sub (lv' := [(0, .ref (be θ + 565)), (1, .int x1), (2, .int x2), (3, .int x3), (4, .int y4), (5, .int y5), (6, .int y6), (7, .int z7)]) [0, 1, 2, 3, 4, 5, 6, 7] rfl hk
  · replace h := (if_neg c6).symm.trans h
    refine g_iload X dX11_rests_54 7 rfl ?_
    refine g_if_eq (tgt := 88) X dX11_rests_56 (by decide) (fun c7 => ?_) (fun c7 => ?_)
    · replace h := (if_pos c7).symm.trans h
      refine g_iconst X dX11_rests_88 (v := (0 : Int32)) ic_0 ?_
      refine g_istore X dX11_rests_89 (by decide) (lv' := [(7, .int (0 : Int32)), (0, .ref (be θ + 565)), (1, .int x1), (2, .int x2), (3, .int x3), (4, .int y4), (5, .int y5), (6, .int y6), (8, .int z8)]) rfl ?_
      refine g_iinc X dX11_rests_91 (kq := 8) rfl (congrArg (HAdd.hAdd _) ic_1) (by decide) (lv' := [(8, .int (z8 + (1 : Int32))), (7, .int (0 : Int32)), (0, .ref (be θ + 565)), (1, .int x1), (2, .int x2), (3, .int x3), (4, .int y4), (5, .int y5), (6, .int y6)]) rfl ?_
      refine g_goto (tgt := 48) X dX11_rests_94 (by decide) ?_
      have hk := inl_hk h hk
      exact g_sub (lv' := [(0, .ref (be θ + 565)), (1, .int x1), (2, .int x2), (3, .int x3), (4, .int y4), (5, .int y5), (6, .int y6), (7, .int (0 : Int32)), (8, .int (z8 + (1 : Int32)))]) [2, 3, 4, 5, 6, 7, 8, 1, 0] rfl hk
    · replace h := (if_neg c7).symm.trans h
      refine g_aload_n X dX11_rests_59 rfl 0 rfl ?_
      refine g_iload_n X dX11_rests_60 rfl 1 rfl ?_
      refine g_iload_n X dX11_rests_61 rfl 2 rfl ?_
      refine g_iload X dX11_rests_62 8 rfl ?_
      refine g_iload X dX11_rests_64 6 rfl ?_
      refine g_iconst X dX11_rests_66 (v := (0 : Int32)) ic_0 ?_
      obtain ⟨q8, hq8, h⟩ := Option.bind_eq_some_iff.mp h
      refine g_cV X (c_Model_gameOf  hq8) lk_RX11_503 my_X11_gameOf (a := 565) (ci := 11) kd_565 (by decide) rfl (As := [.int x1, .int x2, .int z8, .int y6, .int (0 : Int32)]) (rest := []) rfl rfl (Nat.le_of_ble_eq_true rfl) ⟨(Nat.le_of_ble_eq_true rfl), (Nat.le_of_ble_eq_true rfl)⟩ ⟨(Nat.le_of_ble_eq_true rfl), (Nat.le_of_ble_eq_true rfl)⟩ dX11_rests_67 (st' := [.int q8.1]) (σ' := q8.2) rfl rfl ?_
      refine g_aload_n X dX11_rests_70 rfl 0 rfl ?_
      refine g_iload_n X dX11_rests_71 rfl 1 rfl ?_
      refine g_iload_n X dX11_rests_72 rfl 2 rfl ?_
      refine g_iload X dX11_rests_73 5 rfl ?_
      refine g_iload X dX11_rests_75 6 rfl ?_
      refine g_iconst X dX11_rests_77 (v := (0 : Int32)) ic_0 ?_
      obtain ⟨q9, hq9, h⟩ := Option.bind_eq_some_iff.mp h
      refine g_cV X (c_Model_gameOf  hq9) lk_RX11_503 my_X11_gameOf (a := 565) (ci := 11) kd_565 (by decide) rfl (As := [.int x1, .int x2, .int y5, .int y6, .int (0 : Int32)]) (rest := [.int q8.1]) rfl rfl (Nat.le_of_ble_eq_true rfl) ⟨(Nat.le_of_ble_eq_true rfl), (Nat.le_of_ble_eq_true rfl)⟩ ⟨(Nat.le_of_ble_eq_true rfl), (Nat.le_of_ble_eq_true rfl)⟩ dX11_rests_78 (st' := [.int q9.1, .int q8.1]) (σ' := q9.2) rfl rfl ?_
      refine g_icmp_gt (tgt := 88) X dX11_rests_81 (by decide) (fun c10 => ?_) (fun c10 => ?_)
      · replace h := (if_pos c10).symm.trans h
        refine g_iconst X dX11_rests_88 (v := (0 : Int32)) ic_0 ?_
        refine g_istore X dX11_rests_89 (by decide) (lv' := [(7, .int (0 : Int32)), (0, .ref (be θ + 565)), (1, .int x1), (2, .int x2), (3, .int x3), (4, .int y4), (5, .int y5), (6, .int y6), (8, .int z8)]) rfl ?_
        refine g_iinc X dX11_rests_91 (kq := 8) rfl (congrArg (HAdd.hAdd _) ic_1) (by decide) (lv' := [(8, .int (z8 + (1 : Int32))), (7, .int (0 : Int32)), (0, .ref (be θ + 565)), (1, .int x1), (2, .int x2), (3, .int x3), (4, .int y4), (5, .int y5), (6, .int y6)]) rfl ?_
        refine g_goto (tgt := 48) X dX11_rests_94 (by decide) ?_
        have hk := inl_hk h hk
        exact g_sub (lv' := [(0, .ref (be θ + 565)), (1, .int x1), (2, .int x2), (3, .int x3), (4, .int y4), (5, .int y5), (6, .int y6), (7, .int (0 : Int32)), (8, .int (z8 + (1 : Int32)))]) [2, 3, 4, 5, 6, 7, 8, 1, 0] rfl hk
      · replace h := (if_neg c10).symm.trans h
        refine g_iconst X dX11_rests_84 (v := (1 : Int32)) ic_1 ?_
        refine g_goto (tgt := 89) X dX11_rests_85 (by decide) ?_
        refine g_istore X dX11_rests_89 (by decide) (lv' := [(7, .int (1 : Int32)), (0, .ref (be θ + 565)), (1, .int x1), (2, .int x2), (3, .int x3), (4, .int y4), (5, .int y5), (6, .int y6), (8, .int z8)]) rfl ?_
        refine g_iinc X dX11_rests_91 (kq := 8) rfl (congrArg (HAdd.hAdd _) ic_1) (by decide) (lv' := [(8, .int (z8 + (1 : Int32))), (7, .int (1 : Int32)), (0, .ref (be θ + 565)), (1, .int x1), (2, .int x2), (3, .int x3), (4, .int y4), (5, .int y5), (6, .int y6)]) rfl ?_
        refine g_goto (tgt := 48) X dX11_rests_94 (by decide) ?_
        have hk := inl_hk h hk
        exact g_sub (lv' := [(0, .ref (be θ + 565)), (1, .int x1), (2, .int x2), (3, .int x3), (4, .int y4), (5, .int y5), (6, .int y6), (7, .int (1 : Int32)), (8, .int (z8 + (1 : Int32)))]) [2, 3, 4, 5, 6, 7, 8, 1, 0] rfl hk
set_option maxHeartbeats 4000000 in
set_option maxRecDepth 20000 in
theorem gl_Model_rests_L48 (X : Cx θ p s m args c cX11_rests 9 RX11) (hr : meth.sig.returnType = some .int) (hlk : meth.locks = false)  {x1 : Int32} {x2 : Int32} {x3 : Int32} {y4 : Int32} {y5 : Int32} {y6 : Int32} {r : Int32 × Mem}  (n : Nat) (a : Mem × Int32 × Int32) (b : Mem × Int32) (h : loopF (f_Model_rests_L48 x1 x2 x3 y4 y5 y6) n a = some b) (hk : (fun ex => @Prod.casesOn (Mem) (Int32) (fun _ => Prop) ex fun τ w_7 => GB θ p l e 65 s m args below meth c 9 (some (.int r.1), r.2) 97 [(0, .ref (be θ + 565)), (1, .int x1), (2, .int x2), (3, .int x3), (4, .int y4), (5, .int y5), (6, .int y6), (7, .int w_7)] [] τ) b) : (fun a => @Prod.casesOn (Mem) (Int32 × Int32) (fun _ => Prop) a fun τ b0 => @Prod.casesOn (Int32) (Int32) (fun _ => Prop) b0 fun z7 z8 => GB θ p l e 65 s m args below meth c 9 (some (.int r.1), r.2) 48 [(0, .ref (be θ + 565)), (1, .int x1), (2, .int x2), (3, .int x3), (4, .int y4), (5, .int y5), (6, .int y6), (7, .int z7), (8, .int z8)] [] τ) a :=
  loopF_by (P := (fun a => @Prod.casesOn (Mem) (Int32 × Int32) (fun _ => Prop) a fun τ b0 => @Prod.casesOn (Int32) (Int32) (fun _ => Prop) b0 fun z7 z8 => GB θ p l e 65 s m args below meth c 9 (some (.int r.1), r.2) 48 [(0, .ref (be θ + 565)), (1, .int x1), (2, .int x2), (3, .int x3), (4, .int y4), (5, .int y5), (6, .int y6), (7, .int z7), (8, .int z8)] [] τ)) (K := (fun ex => @Prod.casesOn (Mem) (Int32) (fun _ => Prop) ex fun τ w_7 => GB θ p l e 65 s m args below meth c 9 (some (.int r.1), r.2) 97 [(0, .ref (be θ + 565)), (1, .int x1), (2, .int x2), (3, .int x3), (4, .int y4), (5, .int y5), (6, .int y6), (7, .int w_7)] [] τ)) (fun a x h hk => by obtain ⟨τ, z7, z8⟩ := a; exact gs_Model_rests_L48 X hr hlk   τ z7 z8 x h hk) n a b h hk
set_option maxHeartbeats 4000000 in
set_option maxRecDepth 20000 in
theorem gs_Model_rests_L100 (X : Cx θ p s m args c cX11_rests 9 RX11) (hr : meth.sig.returnType = some .int) (hlk : meth.locks = false)  {x1 : Int32} {x2 : Int32} {x3 : Int32} {y4 : Int32} {y5 : Int32} {y6 : Int32} {r : Int32 × Mem}  (τ : Mem) (z7 : Int32) (z8 : Int32) (x : (Mem × Int32 × Int32) ⊕ (Mem × Int32)) (h : f_Model_rests_L100 x1 x2 x3 y4 y5 y6 (τ, z7, z8) = some x) (hk : Sum.elim (fun a => @Prod.casesOn (Mem) (Int32 × Int32) (fun _ => Prop) a fun τ b0 => @Prod.casesOn (Int32) (Int32) (fun _ => Prop) b0 fun z7 z8 => GB θ p l e 65 s m args below meth c 9 (some (.int r.1), r.2) 100 [(0, .ref (be θ + 565)), (1, .int x1), (2, .int x2), (3, .int x3), (4, .int y4), (5, .int y5), (6, .int y6), (7, .int z7), (8, .int z8)] [] τ) (fun ex => @Prod.casesOn (Mem) (Int32) (fun _ => Prop) ex fun τ w_7 => GB θ p l e 65 s m args below meth c 9 (some (.int r.1), r.2) 149 [(0, .ref (be θ + 565)), (1, .int x1), (2, .int x2), (3, .int x3), (4, .int y4), (5, .int y5), (6, .int y6), (7, .int w_7)] [] τ) x) : GB θ p l e 65 s m args below meth c 9 (some (.int r.1), r.2) 100 [(0, .ref (be θ + 565)), (1, .int x1), (2, .int x2), (3, .int x3), (4, .int y4), (5, .int y5), (6, .int y6), (7, .int z7), (8, .int z8)] [] τ := by
  unfold f_Model_rests_L100 at h
  dsimp only at h
  refine g_iload X dX11_rests_100 8 rfl ?_
  refine g_iconst X dX11_rests_102 (v := (3 : Int32)) ic_3 ?_
  refine g_icmp_ge (tgt := 149) X dX11_rests_103 (by decide) (fun c12 => ?_) (fun c12 => ?_)
  · replace h := (if_pos c12).symm.trans h
    have hk := inr_hk h hk
    exact g_sub (lv' := [(0, .ref (be θ + 565)), (1, .int x1), (2, .int x2), (3, .int x3), (4, .int y4), (5, .int y5), (6, .int y6), (7, .int z7)]) [0, 1, 2, 3, 4, 5, 6, 7] rfl hk
  · replace h := (if_neg c12).symm.trans h
    refine g_iload X dX11_rests_106 7 rfl ?_
    refine g_if_eq (tgt := 140) X dX11_rests_108 (by decide) (fun c13 => ?_) (fun c13 => ?_)
    · replace h := (if_pos c13).symm.trans h
      refine g_iconst X dX11_rests_140 (v := (0 : Int32)) ic_0 ?_
      refine g_istore X dX11_rests_141 (by decide) (lv' := [(7, .int (0 : Int32)), (0, .ref (be θ + 565)), (1, .int x1), (2, .int x2), (3, .int x3), (4, .int y4), (5, .int y5), (6, .int y6), (8, .int z8)]) rfl ?_
      refine g_iinc X dX11_rests_143 (kq := 8) rfl (congrArg (HAdd.hAdd _) ic_1) (by decide) (lv' := [(8, .int (z8 + (1 : Int32))), (7, .int (0 : Int32)), (0, .ref (be θ + 565)), (1, .int x1), (2, .int x2), (3, .int x3), (4, .int y4), (5, .int y5), (6, .int y6)]) rfl ?_
      refine g_goto (tgt := 100) X dX11_rests_146 (by decide) ?_
      have hk := inl_hk h hk
      exact g_sub (lv' := [(0, .ref (be θ + 565)), (1, .int x1), (2, .int x2), (3, .int x3), (4, .int y4), (5, .int y5), (6, .int y6), (7, .int (0 : Int32)), (8, .int (z8 + (1 : Int32)))]) [2, 3, 4, 5, 6, 7, 8, 1, 0] rfl hk
    · replace h := (if_neg c13).symm.trans h
      refine g_aload_n X dX11_rests_111 rfl 0 rfl ?_
      refine g_iload_n X dX11_rests_112 rfl 1 rfl ?_
      refine g_iload_n X dX11_rests_113 rfl 2 rfl ?_
      refine g_iload X dX11_rests_114 5 rfl ?_
      refine g_iload X dX11_rests_116 8 rfl ?_
      refine g_iconst X dX11_rests_118 (v := (1 : Int32)) ic_1 ?_
      obtain ⟨q14, hq14, h⟩ := Option.bind_eq_some_iff.mp h
      refine g_cV X (c_Model_gameOf  hq14) lk_RX11_503 my_X11_gameOf (a := 565) (ci := 11) kd_565 (by decide) rfl (As := [.int x1, .int x2, .int y5, .int z8, .int (1 : Int32)]) (rest := []) rfl rfl (Nat.le_of_ble_eq_true rfl) ⟨(Nat.le_of_ble_eq_true rfl), (Nat.le_of_ble_eq_true rfl)⟩ ⟨(Nat.le_of_ble_eq_true rfl), (Nat.le_of_ble_eq_true rfl)⟩ dX11_rests_119 (st' := [.int q14.1]) (σ' := q14.2) rfl rfl ?_
      refine g_aload_n X dX11_rests_122 rfl 0 rfl ?_
      refine g_iload_n X dX11_rests_123 rfl 1 rfl ?_
      refine g_iload_n X dX11_rests_124 rfl 2 rfl ?_
      refine g_iload X dX11_rests_125 5 rfl ?_
      refine g_iload X dX11_rests_127 6 rfl ?_
      refine g_iconst X dX11_rests_129 (v := (1 : Int32)) ic_1 ?_
      obtain ⟨q15, hq15, h⟩ := Option.bind_eq_some_iff.mp h
      refine g_cV X (c_Model_gameOf  hq15) lk_RX11_503 my_X11_gameOf (a := 565) (ci := 11) kd_565 (by decide) rfl (As := [.int x1, .int x2, .int y5, .int y6, .int (1 : Int32)]) (rest := [.int q14.1]) rfl rfl (Nat.le_of_ble_eq_true rfl) ⟨(Nat.le_of_ble_eq_true rfl), (Nat.le_of_ble_eq_true rfl)⟩ ⟨(Nat.le_of_ble_eq_true rfl), (Nat.le_of_ble_eq_true rfl)⟩ dX11_rests_130 (st' := [.int q15.1, .int q14.1]) (σ' := q15.2) rfl rfl ?_
      refine g_icmp_gt (tgt := 140) X dX11_rests_133 (by decide) (fun c16 => ?_) (fun c16 => ?_)
      · replace h := (if_pos c16).symm.trans h
        refine g_iconst X dX11_rests_140 (v := (0 : Int32)) ic_0 ?_
        refine g_istore X dX11_rests_141 (by decide) (lv' := [(7, .int (0 : Int32)), (0, .ref (be θ + 565)), (1, .int x1), (2, .int x2), (3, .int x3), (4, .int y4), (5, .int y5), (6, .int y6), (8, .int z8)]) rfl ?_
        refine g_iinc X dX11_rests_143 (kq := 8) rfl (congrArg (HAdd.hAdd _) ic_1) (by decide) (lv' := [(8, .int (z8 + (1 : Int32))), (7, .int (0 : Int32)), (0, .ref (be θ + 565)), (1, .int x1), (2, .int x2), (3, .int x3), (4, .int y4), (5, .int y5), (6, .int y6)]) rfl ?_
        refine g_goto (tgt := 100) X dX11_rests_146 (by decide) ?_
        have hk := inl_hk h hk
        exact g_sub (lv' := [(0, .ref (be θ + 565)), (1, .int x1), (2, .int x2), (3, .int x3), (4, .int y4), (5, .int y5), (6, .int y6), (7, .int (0 : Int32)), (8, .int (z8 + (1 : Int32)))]) [2, 3, 4, 5, 6, 7, 8, 1, 0] rfl hk
      · replace h := (if_neg c16).symm.trans h
        refine g_iconst X dX11_rests_136 (v := (1 : Int32)) ic_1 ?_
        refine g_goto (tgt := 141) X dX11_rests_137 (by decide) ?_
        refine g_istore X dX11_rests_141 (by decide) (lv' := [(7, .int (1 : Int32)), (0, .ref (be θ + 565)), (1, .int x1), (2, .int x2), (3, .int x3), (4, .int y4), (5, .int y5), (6, .int y6), (8, .int z8)]) rfl ?_
        refine g_iinc X dX11_rests_143 (kq := 8) rfl (congrArg (HAdd.hAdd _) ic_1) (by decide) (lv' := [(8, .int (z8 + (1 : Int32))), (7, .int (1 : Int32)), (0, .ref (be θ + 565)), (1, .int x1), (2, .int x2), (3, .int x3), (4, .int y4), (5, .int y5), (6, .int y6)]) rfl ?_
        refine g_goto (tgt := 100) X dX11_rests_146 (by decide) ?_
        have hk := inl_hk h hk
        exact g_sub (lv' := [(0, .ref (be θ + 565)), (1, .int x1), (2, .int x2), (3, .int x3), (4, .int y4), (5, .int y5), (6, .int y6), (7, .int (1 : Int32)), (8, .int (z8 + (1 : Int32)))]) [2, 3, 4, 5, 6, 7, 8, 1, 0] rfl hk
set_option maxHeartbeats 4000000 in
set_option maxRecDepth 20000 in
theorem gl_Model_rests_L100 (X : Cx θ p s m args c cX11_rests 9 RX11) (hr : meth.sig.returnType = some .int) (hlk : meth.locks = false)  {x1 : Int32} {x2 : Int32} {x3 : Int32} {y4 : Int32} {y5 : Int32} {y6 : Int32} {r : Int32 × Mem}  (n : Nat) (a : Mem × Int32 × Int32) (b : Mem × Int32) (h : loopF (f_Model_rests_L100 x1 x2 x3 y4 y5 y6) n a = some b) (hk : (fun ex => @Prod.casesOn (Mem) (Int32) (fun _ => Prop) ex fun τ w_7 => GB θ p l e 65 s m args below meth c 9 (some (.int r.1), r.2) 149 [(0, .ref (be θ + 565)), (1, .int x1), (2, .int x2), (3, .int x3), (4, .int y4), (5, .int y5), (6, .int y6), (7, .int w_7)] [] τ) b) : (fun a => @Prod.casesOn (Mem) (Int32 × Int32) (fun _ => Prop) a fun τ b0 => @Prod.casesOn (Int32) (Int32) (fun _ => Prop) b0 fun z7 z8 => GB θ p l e 65 s m args below meth c 9 (some (.int r.1), r.2) 100 [(0, .ref (be θ + 565)), (1, .int x1), (2, .int x2), (3, .int x3), (4, .int y4), (5, .int y5), (6, .int y6), (7, .int z7), (8, .int z8)] [] τ) a :=
  loopF_by (P := (fun a => @Prod.casesOn (Mem) (Int32 × Int32) (fun _ => Prop) a fun τ b0 => @Prod.casesOn (Int32) (Int32) (fun _ => Prop) b0 fun z7 z8 => GB θ p l e 65 s m args below meth c 9 (some (.int r.1), r.2) 100 [(0, .ref (be θ + 565)), (1, .int x1), (2, .int x2), (3, .int x3), (4, .int y4), (5, .int y5), (6, .int y6), (7, .int z7), (8, .int z8)] [] τ)) (K := (fun ex => @Prod.casesOn (Mem) (Int32) (fun _ => Prop) ex fun τ w_7 => GB θ p l e 65 s m args below meth c 9 (some (.int r.1), r.2) 149 [(0, .ref (be θ + 565)), (1, .int x1), (2, .int x2), (3, .int x3), (4, .int y4), (5, .int y5), (6, .int y6), (7, .int w_7)] [] τ)) (fun a x h hk => by obtain ⟨τ, z7, z8⟩ := a; exact gs_Model_rests_L100 X hr hlk   τ z7 z8 x h hk) n a b h hk
set_option maxHeartbeats 4000000 in
set_option maxRecDepth 20000 in
theorem gs_Model_rests_L36 (X : Cx θ p s m args c cX11_rests 9 RX11) (hr : meth.sig.returnType = some .int) (hlk : meth.locks = false)  {x1 : Int32} {x2 : Int32} {x3 : Int32} {y5 : Int32} {r : Int32 × Mem}  (τ : Mem) (z4 : Int32) (z6 : Int32) (x : (Mem × Int32 × Int32) ⊕ ((Mem × Int32) ⊕ (Int32 × Mem))) (h : f_Model_rests_L36 x1 x2 x3 y5 (τ, z4, z6) = some x) (hk : Sum.elim (fun a => @Prod.casesOn (Mem) (Int32 × Int32) (fun _ => Prop) a fun τ b0 => @Prod.casesOn (Int32) (Int32) (fun _ => Prop) b0 fun z4 z6 => GB θ p l e 65 s m args below meth c 9 (some (.int r.1), r.2) 36 [(0, .ref (be θ + 565)), (1, .int x1), (2, .int x2), (3, .int x3), (4, .int z4), (5, .int y5), (6, .int z6)] [] τ) (Sum.elim (fun ex => @Prod.casesOn (Mem) (Int32) (fun _ => Prop) ex fun τ w_4 => GB θ p l e 65 s m args below meth c 9 (some (.int r.1), r.2) 181 [(0, .ref (be θ + 565)), (1, .int x1), (2, .int x2), (3, .int x3), (4, .int w_4), (5, .int y5)] [] τ) (fun rt => rt = r)) x) : GB θ p l e 65 s m args below meth c 9 (some (.int r.1), r.2) 36 [(0, .ref (be θ + 565)), (1, .int x1), (2, .int x2), (3, .int x3), (4, .int z4), (5, .int y5), (6, .int z6)] [] τ := by
  unfold f_Model_rests_L36 at h
  dsimp only at h
  refine g_iload X dX11_rests_36 6 rfl ?_
  refine g_iconst X dX11_rests_38 (v := (3 : Int32)) ic_3 ?_
  refine g_icmp_ge (tgt := 181) X dX11_rests_39 (by decide) (fun c5 => ?_) (fun c5 => ?_)
  · replace h := (if_pos c5).symm.trans h
    have hk := inr_hk h hk
    have hk := inl_el hk
    exact g_sub (lv' := [(0, .ref (be θ + 565)), (1, .int x1), (2, .int x2), (3, .int x3), (4, .int z4), (5, .int y5)]) [0, 1, 2, 3, 4, 5] rfl hk
  · replace h := (if_neg c5).symm.trans h
    refine g_iconst X dX11_rests_42 (v := (1 : Int32)) ic_1 ?_
    refine g_istore X dX11_rests_43 (by decide) (lv' := [(7, .int (1 : Int32)), (0, .ref (be θ + 565)), (1, .int x1), (2, .int x2), (3, .int x3), (4, .int z4), (5, .int y5), (6, .int z6)]) rfl ?_
    refine g_iconst X dX11_rests_45 (v := (0 : Int32)) ic_0 ?_
    refine g_istore X dX11_rests_46 (by decide) (lv' := [(8, .int (0 : Int32)), (7, .int (1 : Int32)), (0, .ref (be θ + 565)), (1, .int x1), (2, .int x2), (3, .int x3), (4, .int z4), (5, .int y5), (6, .int z6)]) rfl ?_
    obtain ⟨q11, hq11, h⟩ := Option.bind_eq_some_iff.mp h
    refine g_sub (lv' := [(0, .ref (be θ + 565)), (1, .int x1), (2, .int x2), (3, .int x3), (4, .int z4), (5, .int y5), (6, .int z6), (7, .int (1 : Int32)), (8, .int (0 : Int32))]) [2, 3, 4, 5, 6, 7, 8, 1, 0] rfl (gl_Model_rests_L48 X hr hlk    FU _ q11 hq11 ?_)
    obtain ⟨τ11, w11_7⟩ := q11
    dsimp only at h ⊢
    refine g_iconst X dX11_rests_97 (v := (0 : Int32)) ic_0 ?_
    refine g_istore X dX11_rests_98 (by decide) (lv' := [(8, .int (0 : Int32)), (0, .ref (be θ + 565)), (1, .int x1), (2, .int x2), (3, .int x3), (4, .int z4), (5, .int y5), (6, .int z6), (7, .int w11_7)]) rfl ?_
    obtain ⟨q17, hq17, h⟩ := Option.bind_eq_some_iff.mp h
    refine g_sub (lv' := [(0, .ref (be θ + 565)), (1, .int x1), (2, .int x2), (3, .int x3), (4, .int z4), (5, .int y5), (6, .int z6), (7, .int w11_7), (8, .int (0 : Int32))]) [1, 2, 3, 4, 5, 6, 7, 8, 0] rfl (gl_Model_rests_L100 X hr hlk    FU _ q17 hq17 ?_)
    obtain ⟨τ17, w17_7⟩ := q17
    dsimp only at h ⊢
    refine g_iload X dX11_rests_149 7 rfl ?_
    refine g_if_ne (tgt := 157) X dX11_rests_151 (by decide) (fun c18 => ?_) (fun c18 => ?_)
    · replace h := (if_neg c18).symm.trans h
      refine g_iload X dX11_rests_157 4 rfl ?_
      refine g_iload_n X dX11_rests_159 rfl 3 rfl ?_
      refine g_icmp_ne (tgt := 172) X dX11_rests_160 (by decide) (fun c19 => ?_) (fun c19 => ?_)
      · replace h := (if_neg c19).symm.trans h
        refine g_iinc X dX11_rests_172 (kq := 4) rfl (congrArg (HAdd.hAdd _) ic_1) (by decide) (lv' := [(4, .int (z4 + (1 : Int32))), (0, .ref (be θ + 565)), (1, .int x1), (2, .int x2), (3, .int x3), (5, .int y5), (6, .int z6), (7, .int w17_7)]) rfl ?_
        refine g_iinc X dX11_rests_175 (kq := 6) rfl (congrArg (HAdd.hAdd _) ic_1) (by decide) (lv' := [(6, .int (z6 + (1 : Int32))), (4, .int (z4 + (1 : Int32))), (0, .ref (be θ + 565)), (1, .int x1), (2, .int x2), (3, .int x3), (5, .int y5), (7, .int w17_7)]) rfl ?_
        refine g_goto (tgt := 36) X dX11_rests_178 (by decide) ?_
        have hk := inl_hk h hk
        exact g_sub (lv' := [(0, .ref (be θ + 565)), (1, .int x1), (2, .int x2), (3, .int x3), (4, .int (z4 + (1 : Int32))), (5, .int y5), (6, .int (z6 + (1 : Int32)))]) [2, 3, 4, 5, 1, 6, 0] rfl hk
      · replace h := (if_pos c19).symm.trans h
        refine g_bipush X dX11_rests_163 (v := (10 : Int32)) bp_10 ?_
        refine g_iload X dX11_rests_165 5 rfl ?_
        refine g_imul X dX11_rests_167 ?_
        refine g_iload X dX11_rests_168 6 rfl ?_
        refine g_iadd X dX11_rests_170 ?_
        have hk := inr_hk h hk
        have hk := inr_el hk
        have hk : ((((10 : Int32) * y5) + z6), τ17) = r := hk
        subst hk
        exact g_iret X hr hlk dX11_rests_171 rfl
    · replace h := (if_pos c18).symm.trans h
      refine g_goto (tgt := 175) X dX11_rests_154 (by decide) ?_
      refine g_iinc X dX11_rests_175 (kq := 6) rfl (congrArg (HAdd.hAdd _) ic_1) (by decide) (lv' := [(6, .int (z6 + (1 : Int32))), (0, .ref (be θ + 565)), (1, .int x1), (2, .int x2), (3, .int x3), (4, .int z4), (5, .int y5), (7, .int w17_7)]) rfl ?_
      refine g_goto (tgt := 36) X dX11_rests_178 (by decide) ?_
      have hk := inl_hk h hk
      exact g_sub (lv' := [(0, .ref (be θ + 565)), (1, .int x1), (2, .int x2), (3, .int x3), (4, .int z4), (5, .int y5), (6, .int (z6 + (1 : Int32)))]) [1, 2, 3, 4, 5, 6, 0] rfl hk
set_option maxHeartbeats 4000000 in
set_option maxRecDepth 20000 in
theorem gl_Model_rests_L36 (X : Cx θ p s m args c cX11_rests 9 RX11) (hr : meth.sig.returnType = some .int) (hlk : meth.locks = false)  {x1 : Int32} {x2 : Int32} {x3 : Int32} {y5 : Int32} {r : Int32 × Mem}  (n : Nat) (a : Mem × Int32 × Int32) (b : (Mem × Int32) ⊕ (Int32 × Mem)) (h : loopF (f_Model_rests_L36 x1 x2 x3 y5) n a = some b) (hk : (Sum.elim (fun ex => @Prod.casesOn (Mem) (Int32) (fun _ => Prop) ex fun τ w_4 => GB θ p l e 65 s m args below meth c 9 (some (.int r.1), r.2) 181 [(0, .ref (be θ + 565)), (1, .int x1), (2, .int x2), (3, .int x3), (4, .int w_4), (5, .int y5)] [] τ) (fun rt => rt = r)) b) : (fun a => @Prod.casesOn (Mem) (Int32 × Int32) (fun _ => Prop) a fun τ b0 => @Prod.casesOn (Int32) (Int32) (fun _ => Prop) b0 fun z4 z6 => GB θ p l e 65 s m args below meth c 9 (some (.int r.1), r.2) 36 [(0, .ref (be θ + 565)), (1, .int x1), (2, .int x2), (3, .int x3), (4, .int z4), (5, .int y5), (6, .int z6)] [] τ) a :=
  loopF_by (P := (fun a => @Prod.casesOn (Mem) (Int32 × Int32) (fun _ => Prop) a fun τ b0 => @Prod.casesOn (Int32) (Int32) (fun _ => Prop) b0 fun z4 z6 => GB θ p l e 65 s m args below meth c 9 (some (.int r.1), r.2) 36 [(0, .ref (be θ + 565)), (1, .int x1), (2, .int x2), (3, .int x3), (4, .int z4), (5, .int y5), (6, .int z6)] [] τ)) (K := (Sum.elim (fun ex => @Prod.casesOn (Mem) (Int32) (fun _ => Prop) ex fun τ w_4 => GB θ p l e 65 s m args below meth c 9 (some (.int r.1), r.2) 181 [(0, .ref (be θ + 565)), (1, .int x1), (2, .int x2), (3, .int x3), (4, .int w_4), (5, .int y5)] [] τ) (fun rt => rt = r))) (fun a x h hk => by obtain ⟨τ, z4, z6⟩ := a; exact gs_Model_rests_L36 X hr hlk   τ z4 z6 x h hk) n a b h hk
set_option maxHeartbeats 4000000 in
set_option maxRecDepth 20000 in
theorem gs_Model_rests_L27 (X : Cx θ p s m args c cX11_rests 9 RX11) (hr : meth.sig.returnType = some .int) (hlk : meth.locks = false)  {x1 : Int32} {x2 : Int32} {x3 : Int32} {r : Int32 × Mem}  (τ : Mem) (z4 : Int32) (z5 : Int32) (x : (Mem × Int32 × Int32) ⊕ ((Mem × Int32) ⊕ (Int32 × Mem))) (h : f_Model_rests_L27 x1 x2 x3 (τ, z4, z5) = some x) (hk : Sum.elim (fun a => @Prod.casesOn (Mem) (Int32 × Int32) (fun _ => Prop) a fun τ b0 => @Prod.casesOn (Int32) (Int32) (fun _ => Prop) b0 fun z4 z5 => GB θ p l e 65 s m args below meth c 9 (some (.int r.1), r.2) 27 [(0, .ref (be θ + 565)), (1, .int x1), (2, .int x2), (3, .int x3), (4, .int z4), (5, .int z5)] [] τ) (Sum.elim (fun ex => @Prod.casesOn (Mem) (Int32) (fun _ => Prop) ex fun τ w_4 => GB θ p l e 65 s m args below meth c 9 (some (.int r.1), r.2) 187 [(0, .ref (be θ + 565)), (1, .int x1), (2, .int x2), (3, .int x3), (4, .int w_4)] [] τ) (fun rt => rt = r)) x) : GB θ p l e 65 s m args below meth c 9 (some (.int r.1), r.2) 27 [(0, .ref (be θ + 565)), (1, .int x1), (2, .int x2), (3, .int x3), (4, .int z4), (5, .int z5)] [] τ := by
  unfold f_Model_rests_L27 at h
  dsimp only at h
  refine g_iload X dX11_rests_27 5 rfl ?_
  refine g_iconst X dX11_rests_29 (v := (4 : Int32)) ic_4 ?_
  refine g_icmp_ge (tgt := 187) X dX11_rests_30 (by decide) (fun c4 => ?_) (fun c4 => ?_)
  · replace h := (if_pos c4).symm.trans h
    have hk := inr_hk h hk
    have hk := inl_el hk
    exact g_sub (lv' := [(0, .ref (be θ + 565)), (1, .int x1), (2, .int x2), (3, .int x3), (4, .int z4)]) [0, 1, 2, 3, 4] rfl hk
  · replace h := (if_neg c4).symm.trans h
    refine g_iconst X dX11_rests_33 (v := (0 : Int32)) ic_0 ?_
    refine g_istore X dX11_rests_34 (by decide) (lv' := [(6, .int (0 : Int32)), (0, .ref (be θ + 565)), (1, .int x1), (2, .int x2), (3, .int x3), (4, .int z4), (5, .int z5)]) rfl ?_
    obtain ⟨q20, hq20, h⟩ := Option.bind_eq_some_iff.mp h
    refine g_sub (lv' := [(0, .ref (be θ + 565)), (1, .int x1), (2, .int x2), (3, .int x3), (4, .int z4), (5, .int z5), (6, .int (0 : Int32))]) [1, 2, 3, 4, 5, 6, 0] rfl (gl_Model_rests_L36 X hr hlk    FU _ q20 hq20 ?_)
    rcases q20 with e20 | t21
    · simp only [Sum.elim_inl] at h ⊢
      obtain ⟨τ20, w20_4⟩ := e20
      dsimp only at h ⊢
      refine g_iinc X dX11_rests_181 (kq := 5) rfl (congrArg (HAdd.hAdd _) ic_1) (by decide) (lv' := [(5, .int (z5 + (1 : Int32))), (0, .ref (be θ + 565)), (1, .int x1), (2, .int x2), (3, .int x3), (4, .int w20_4)]) rfl ?_
      refine g_goto (tgt := 27) X dX11_rests_184 (by decide) ?_
      have hk := inl_hk h hk
      exact g_sub (lv' := [(0, .ref (be θ + 565)), (1, .int x1), (2, .int x2), (3, .int x3), (4, .int w20_4), (5, .int (z5 + (1 : Int32)))]) [1, 2, 3, 4, 5, 0] rfl hk
    · simp only [Sum.elim_inr] at h ⊢
      have hk := inr_hk h hk
      have hk := inr_el hk
      exact hk
set_option maxHeartbeats 4000000 in
set_option maxRecDepth 20000 in
theorem gl_Model_rests_L27 (X : Cx θ p s m args c cX11_rests 9 RX11) (hr : meth.sig.returnType = some .int) (hlk : meth.locks = false)  {x1 : Int32} {x2 : Int32} {x3 : Int32} {r : Int32 × Mem}  (n : Nat) (a : Mem × Int32 × Int32) (b : (Mem × Int32) ⊕ (Int32 × Mem)) (h : loopF (f_Model_rests_L27 x1 x2 x3) n a = some b) (hk : (Sum.elim (fun ex => @Prod.casesOn (Mem) (Int32) (fun _ => Prop) ex fun τ w_4 => GB θ p l e 65 s m args below meth c 9 (some (.int r.1), r.2) 187 [(0, .ref (be θ + 565)), (1, .int x1), (2, .int x2), (3, .int x3), (4, .int w_4)] [] τ) (fun rt => rt = r)) b) : (fun a => @Prod.casesOn (Mem) (Int32 × Int32) (fun _ => Prop) a fun τ b0 => @Prod.casesOn (Int32) (Int32) (fun _ => Prop) b0 fun z4 z5 => GB θ p l e 65 s m args below meth c 9 (some (.int r.1), r.2) 27 [(0, .ref (be θ + 565)), (1, .int x1), (2, .int x2), (3, .int x3), (4, .int z4), (5, .int z5)] [] τ) a :=
  loopF_by (P := (fun a => @Prod.casesOn (Mem) (Int32 × Int32) (fun _ => Prop) a fun τ b0 => @Prod.casesOn (Int32) (Int32) (fun _ => Prop) b0 fun z4 z5 => GB θ p l e 65 s m args below meth c 9 (some (.int r.1), r.2) 27 [(0, .ref (be θ + 565)), (1, .int x1), (2, .int x2), (3, .int x3), (4, .int z4), (5, .int z5)] [] τ)) (K := (Sum.elim (fun ex => @Prod.casesOn (Mem) (Int32) (fun _ => Prop) ex fun τ w_4 => GB θ p l e 65 s m args below meth c 9 (some (.int r.1), r.2) 187 [(0, .ref (be θ + 565)), (1, .int x1), (2, .int x2), (3, .int x3), (4, .int w_4)] [] τ) (fun rt => rt = r))) (fun a x h hk => by obtain ⟨τ, z4, z5⟩ := a; exact gs_Model_rests_L27 X hr hlk   τ z4 z5 x h hk) n a b h hk
set_option maxHeartbeats 4000000 in
set_option maxRecDepth 20000 in
theorem g_Model_rests (X : Cx θ p s m args c cX11_rests 9 RX11) (hr : meth.sig.returnType = some .int) (hlk : meth.locks = false)  {σ : Mem} {x1 : Int32} {x2 : Int32} {x3 : Int32} {r : Int32 × Mem}  (h : f_Model_rests σ x1 x2 x3 = some r) : GB θ p l e 65 s m args below meth c 9 (some (.int r.1), r.2) 0 [(0, .ref (be θ + 565)), (1, .int x1), (2, .int x2), (3, .int x3)] [] σ := by
  unfold f_Model_rests at h
  refine g_aload_n X dX11_rests_0 rfl 0 rfl ?_
  refine g_iconst X dX11_rests_1 (v := (0 : Int32)) ic_0 ?_
  refine g_putI X fl_RX11_112 dX11_rests_2 kd_565 rfl rfl rfl ?_
  refine g_aload_n X dX11_rests_5 rfl 0 rfl ?_
  refine g_iload_n X dX11_rests_6 rfl 1 rfl ?_
  refine g_iload_n X dX11_rests_7 rfl 2 rfl ?_
  obtain ⟨q1, hq1, h⟩ := Option.bind_eq_some_iff.mp h
  refine g_cV X (c_Model_canPlay  hq1) lk_RX11_500 my_X11_canPlay (a := 565) (ci := 11) kd_565 (by decide) rfl (As := [.int x1, .int x2]) (rest := []) rfl rfl (Nat.le_of_ble_eq_true rfl) ⟨(Nat.le_of_ble_eq_true rfl), (Nat.le_of_ble_eq_true rfl)⟩ ⟨(Nat.le_of_ble_eq_true rfl), (Nat.le_of_ble_eq_true rfl)⟩ dX11_rests_8 (st' := [.int q1]) (σ' := (sI σ 565 0 (0 : Int32))) rfl rfl ?_
  refine g_if_eq (tgt := 19) X dX11_rests_11 (by decide) (fun c2 => ?_) (fun c2 => ?_)
  · replace h := (if_pos c2).symm.trans h
    refine g_iconst X dX11_rests_19 (v := (-1 : Int32)) ic_m1 ?_
    exact g_iret X hr hlk dX11_rests_20 (by cases h; rfl)
  · replace h := (if_neg c2).symm.trans h
    refine g_iload_n X dX11_rests_14 rfl 3 rfl ?_
    refine g_iconst X dX11_rests_15 (v := (-1 : Int32)) ic_m1 ?_
    refine g_icmp_ge (tgt := 21) X dX11_rests_16 (by decide) (fun c3 => ?_) (fun c3 => ?_)
    · replace h := (if_pos c3).symm.trans h
      refine g_iconst X dX11_rests_21 (v := (0 : Int32)) ic_0 ?_
      refine g_istore X dX11_rests_22 (by decide) (lv' := [(4, .int (0 : Int32)), (0, .ref (be θ + 565)), (1, .int x1), (2, .int x2), (3, .int x3)]) rfl ?_
      refine g_iconst X dX11_rests_24 (v := (0 : Int32)) ic_0 ?_
      refine g_istore X dX11_rests_25 (by decide) (lv' := [(5, .int (0 : Int32)), (4, .int (0 : Int32)), (0, .ref (be θ + 565)), (1, .int x1), (2, .int x2), (3, .int x3)]) rfl ?_
      obtain ⟨q22, hq22, h⟩ := Option.bind_eq_some_iff.mp h
      refine g_sub (lv' := [(0, .ref (be θ + 565)), (1, .int x1), (2, .int x2), (3, .int x3), (4, .int (0 : Int32)), (5, .int (0 : Int32))]) [2, 3, 4, 5, 1, 0] rfl (gl_Model_rests_L27 X hr hlk    FU _ q22 hq22 ?_)
      rcases q22 with e22 | t24
      · simp only [Sum.elim_inl] at h ⊢
        obtain ⟨τ22, w22_4⟩ := e22
        dsimp only at h ⊢
        refine g_iload_n X dX11_rests_187 rfl 3 rfl ?_
        refine g_iconst X dX11_rests_188 (v := (-1 : Int32)) ic_m1 ?_
        refine g_icmp_ne (tgt := 197) X dX11_rests_189 (by decide) (fun c23 => ?_) (fun c23 => ?_)
        · replace h := (if_neg c23).symm.trans h
          refine g_iconst X dX11_rests_197 (v := (-1 : Int32)) ic_m1 ?_
          exact g_iret X hr hlk dX11_rests_198 (by cases h; rfl)
        · replace h := (if_pos c23).symm.trans h
          refine g_iload X dX11_rests_192 4 rfl ?_
          refine g_goto (tgt := 198) X dX11_rests_194 (by decide) ?_
          exact g_iret X hr hlk dX11_rests_198 (by cases h; rfl)
      · simp only [Sum.elim_inr] at h ⊢
        exact Option.some.inj h
    · replace h := (if_neg c3).symm.trans h
      refine g_iconst X dX11_rests_19 (v := (-1 : Int32)) ic_m1 ?_
      exact g_iret X hr hlk dX11_rests_20 (by cases h; rfl)
set_option maxHeartbeats 4000000 in
set_option maxRecDepth 20000 in
theorem c_Model_rests {θ : Th} {l : Launch} {σ : Mem} {x1 : Int32} {x2 : Int32} {x3 : Int32} {r : Int32 × Mem}  (h : f_Model_rests σ x1 x2 x3 = some r) : Cn θ l yX11_rests cX11_rests 9 (some .int) 65 0 0 [.ref (be θ + 565), .int x1, .int x2, .int x3] σ (some (.int r.1), r.2) :=
  Cn.of (by decide) (Nat.le_of_ble_eq_true rfl) (fun p e s m below meth c X hr hlk => g_Model_rests X hr hlk  h)
theorem dX11_oddsFrom_0 : decode cX11_oddsFrom 0 = .ok (.iload_n 1, 1) := by decide +kernel
theorem dX11_oddsFrom_1 : decode cX11_oddsFrom 1 = .ok (.ifCond .ne 30, 3) := by decide +kernel
theorem dX11_oddsFrom_4 : decode cX11_oddsFrom 4 = .ok (.aload_n 0, 1) := by decide +kernel
theorem dX11_oddsFrom_5 : decode cX11_oddsFrom 5 = .ok (.getfield 64, 3) := by decide +kernel
theorem dX11_oddsFrom_8 : decode cX11_oddsFrom 8 = .ok (.sipush 129, 3) := by decide +kernel
theorem dX11_oddsFrom_11 : decode cX11_oddsFrom 11 = .ok (.iaload, 1) := by decide +kernel
theorem dX11_oddsFrom_12 : decode cX11_oddsFrom 12 = .ok (.aload_n 0, 1) := by decide +kernel
theorem dX11_oddsFrom_13 : decode cX11_oddsFrom 13 = .ok (.getfield 64, 3) := by decide +kernel
theorem dX11_oddsFrom_16 : decode cX11_oddsFrom 16 = .ok (.invokestatic 471, 3) := by decide +kernel
theorem dX11_oddsFrom_19 : decode cX11_oddsFrom 19 = .ok (.iadd, 1) := by decide +kernel
theorem dX11_oddsFrom_20 : decode cX11_oddsFrom 20 = .ok (.iload_n 2, 1) := by decide +kernel
theorem dX11_oddsFrom_21 : decode cX11_oddsFrom 21 = .ok (.if_icmp .lt 8, 3) := by decide +kernel
theorem dX11_oddsFrom_24 : decode cX11_oddsFrom 24 = .ok (.iload 4, 2) := by decide +kernel
theorem dX11_oddsFrom_26 : decode cX11_oddsFrom 26 = .ok (.goto 4, 3) := by decide +kernel
theorem dX11_oddsFrom_29 : decode cX11_oddsFrom 29 = .ok (.iconst 0, 1) := by decide +kernel
theorem dX11_oddsFrom_30 : decode cX11_oddsFrom 30 = .ok (.ireturn, 1) := by decide +kernel
theorem dX11_oddsFrom_31 : decode cX11_oddsFrom 31 = .ok (.iconst 0, 1) := by decide +kernel
theorem dX11_oddsFrom_32 : decode cX11_oddsFrom 32 = .ok (.istore 5, 2) := by decide +kernel
theorem dX11_oddsFrom_34 : decode cX11_oddsFrom 34 = .ok (.iload 5, 2) := by decide +kernel
theorem dX11_oddsFrom_36 : decode cX11_oddsFrom 36 = .ok (.sipush 131, 3) := by decide +kernel
theorem dX11_oddsFrom_39 : decode cX11_oddsFrom 39 = .ok (.if_icmp .ge 29, 3) := by decide +kernel
theorem dX11_oddsFrom_42 : decode cX11_oddsFrom 42 = .ok (.aload_n 0, 1) := by decide +kernel
theorem dX11_oddsFrom_43 : decode cX11_oddsFrom 43 = .ok (.getfield 106, 3) := by decide +kernel
theorem dX11_oddsFrom_46 : decode cX11_oddsFrom 46 = .ok (.sipush 131, 3) := by decide +kernel
theorem dX11_oddsFrom_49 : decode cX11_oddsFrom 49 = .ok (.iload_n 1, 1) := by decide +kernel
theorem dX11_oddsFrom_50 : decode cX11_oddsFrom 50 = .ok (.imul, 1) := by decide +kernel
theorem dX11_oddsFrom_51 : decode cX11_oddsFrom 51 = .ok (.iload 5, 2) := by decide +kernel
theorem dX11_oddsFrom_53 : decode cX11_oddsFrom 53 = .ok (.iadd, 1) := by decide +kernel
theorem dX11_oddsFrom_54 : decode cX11_oddsFrom 54 = .ok (.aload_n 0, 1) := by decide +kernel
theorem dX11_oddsFrom_55 : decode cX11_oddsFrom 55 = .ok (.getfield 64, 3) := by decide +kernel
theorem dX11_oddsFrom_58 : decode cX11_oddsFrom 58 = .ok (.iload 5, 2) := by decide +kernel
theorem dX11_oddsFrom_60 : decode cX11_oddsFrom 60 = .ok (.iaload, 1) := by decide +kernel
theorem dX11_oddsFrom_61 : decode cX11_oddsFrom 61 = .ok (.iastore, 1) := by decide +kernel
theorem dX11_oddsFrom_62 : decode cX11_oddsFrom 62 = .ok (.iinc 5 1, 3) := by decide +kernel
theorem dX11_oddsFrom_65 : decode cX11_oddsFrom 65 = .ok (.goto (-31), 3) := by decide +kernel
theorem dX11_oddsFrom_68 : decode cX11_oddsFrom 68 = .ok (.iload 4, 2) := by decide +kernel
theorem dX11_oddsFrom_70 : decode cX11_oddsFrom 70 = .ok (.i2l, 1) := by decide +kernel
theorem dX11_oddsFrom_71 : decode cX11_oddsFrom 71 = .ok (.iload_n 3, 1) := by decide +kernel
theorem dX11_oddsFrom_72 : decode cX11_oddsFrom 72 = .ok (.i2l, 1) := by decide +kernel
theorem dX11_oddsFrom_73 : decode cX11_oddsFrom 73 = .ok (.lmul, 1) := by decide +kernel
theorem dX11_oddsFrom_74 : decode cX11_oddsFrom 74 = .ok (.ldc2_w 335, 3) := by decide +kernel
theorem dX11_oddsFrom_77 : decode cX11_oddsFrom 77 = .ok (.ldiv, 1) := by decide +kernel
theorem dX11_oddsFrom_78 : decode cX11_oddsFrom 78 = .ok (.l2i, 1) := by decide +kernel
theorem dX11_oddsFrom_79 : decode cX11_oddsFrom 79 = .ok (.istore 5, 2) := by decide +kernel
theorem dX11_oddsFrom_81 : decode cX11_oddsFrom 81 = .ok (.iconst 0, 1) := by decide +kernel
theorem dX11_oddsFrom_82 : decode cX11_oddsFrom 82 = .ok (.istore 6, 2) := by decide +kernel
theorem dX11_oddsFrom_84 : decode cX11_oddsFrom 84 = .ok (.iconst 0, 1) := by decide +kernel
theorem dX11_oddsFrom_85 : decode cX11_oddsFrom 85 = .ok (.istore 7, 2) := by decide +kernel
theorem dX11_oddsFrom_87 : decode cX11_oddsFrom 87 = .ok (.iload 7, 2) := by decide +kernel
theorem dX11_oddsFrom_89 : decode cX11_oddsFrom 89 = .ok (.iconst 2, 1) := by decide +kernel
theorem dX11_oddsFrom_90 : decode cX11_oddsFrom 90 = .ok (.if_icmp .ge 116, 3) := by decide +kernel
theorem dX11_oddsFrom_93 : decode cX11_oddsFrom 93 = .ok (.iconst 0, 1) := by decide +kernel
theorem dX11_oddsFrom_94 : decode cX11_oddsFrom 94 = .ok (.istore 8, 2) := by decide +kernel
theorem dX11_oddsFrom_96 : decode cX11_oddsFrom 96 = .ok (.iload 8, 2) := by decide +kernel
theorem dX11_oddsFrom_98 : decode cX11_oddsFrom 98 = .ok (.sipush 131, 3) := by decide +kernel
theorem dX11_oddsFrom_101 : decode cX11_oddsFrom 101 = .ok (.if_icmp .ge 29, 3) := by decide +kernel
theorem dX11_oddsFrom_104 : decode cX11_oddsFrom 104 = .ok (.aload_n 0, 1) := by decide +kernel
theorem dX11_oddsFrom_105 : decode cX11_oddsFrom 105 = .ok (.getfield 64, 3) := by decide +kernel
theorem dX11_oddsFrom_108 : decode cX11_oddsFrom 108 = .ok (.iload 8, 2) := by decide +kernel
theorem dX11_oddsFrom_110 : decode cX11_oddsFrom 110 = .ok (.aload_n 0, 1) := by decide +kernel
theorem dX11_oddsFrom_111 : decode cX11_oddsFrom 111 = .ok (.getfield 106, 3) := by decide +kernel
theorem dX11_oddsFrom_114 : decode cX11_oddsFrom 114 = .ok (.sipush 131, 3) := by decide +kernel
theorem dX11_oddsFrom_117 : decode cX11_oddsFrom 117 = .ok (.iload_n 1, 1) := by decide +kernel
theorem dX11_oddsFrom_118 : decode cX11_oddsFrom 118 = .ok (.imul, 1) := by decide +kernel
theorem dX11_oddsFrom_119 : decode cX11_oddsFrom 119 = .ok (.iload 8, 2) := by decide +kernel
theorem dX11_oddsFrom_121 : decode cX11_oddsFrom 121 = .ok (.iadd, 1) := by decide +kernel
theorem dX11_oddsFrom_122 : decode cX11_oddsFrom 122 = .ok (.iaload, 1) := by decide +kernel
theorem dX11_oddsFrom_123 : decode cX11_oddsFrom 123 = .ok (.iastore, 1) := by decide +kernel
theorem dX11_oddsFrom_124 : decode cX11_oddsFrom 124 = .ok (.iinc 8 1, 3) := by decide +kernel
theorem dX11_oddsFrom_127 : decode cX11_oddsFrom 127 = .ok (.goto (-31), 3) := by decide +kernel
theorem dX11_oddsFrom_130 : decode cX11_oddsFrom 130 = .ok (.iload 7, 2) := by decide +kernel
theorem dX11_oddsFrom_132 : decode cX11_oddsFrom 132 = .ok (.iconst 1, 1) := by decide +kernel
theorem dX11_oddsFrom_133 : decode cX11_oddsFrom 133 = .ok (.if_icmp .ne 13, 3) := by decide +kernel
theorem dX11_oddsFrom_136 : decode cX11_oddsFrom 136 = .ok (.aload_n 0, 1) := by decide +kernel
theorem dX11_oddsFrom_137 : decode cX11_oddsFrom 137 = .ok (.getfield 64, 3) := by decide +kernel
theorem dX11_oddsFrom_140 : decode cX11_oddsFrom 140 = .ok (.sipush 128, 3) := by decide +kernel
theorem dX11_oddsFrom_143 : decode cX11_oddsFrom 143 = .ok (.bipush 15, 2) := by decide +kernel
theorem dX11_oddsFrom_145 : decode cX11_oddsFrom 145 = .ok (.iastore, 1) := by decide +kernel
theorem dX11_oddsFrom_146 : decode cX11_oddsFrom 146 = .ok (.aload_n 0, 1) := by decide +kernel
theorem dX11_oddsFrom_147 : decode cX11_oddsFrom 147 = .ok (.aload_n 0, 1) := by decide +kernel
theorem dX11_oddsFrom_148 : decode cX11_oddsFrom 148 = .ok (.getfield 64, 3) := by decide +kernel
theorem dX11_oddsFrom_151 : decode cX11_oddsFrom 151 = .ok (.invokevirtual 402, 3) := by decide +kernel
theorem dX11_oddsFrom_154 : decode cX11_oddsFrom 154 = .ok (.aload_n 0, 1) := by decide +kernel
theorem dX11_oddsFrom_155 : decode cX11_oddsFrom 155 = .ok (.getfield 64, 3) := by decide +kernel
theorem dX11_oddsFrom_158 : decode cX11_oddsFrom 158 = .ok (.sipush 128, 3) := by decide +kernel
theorem dX11_oddsFrom_161 : decode cX11_oddsFrom 161 = .ok (.aload_n 0, 1) := by decide +kernel
theorem dX11_oddsFrom_162 : decode cX11_oddsFrom 162 = .ok (.getfield 61, 3) := by decide +kernel
theorem dX11_oddsFrom_165 : decode cX11_oddsFrom 165 = .ok (.sipush 128, 3) := by decide +kernel
theorem dX11_oddsFrom_168 : decode cX11_oddsFrom 168 = .ok (.iaload, 1) := by decide +kernel
theorem dX11_oddsFrom_169 : decode cX11_oddsFrom 169 = .ok (.iastore, 1) := by decide +kernel
theorem dX11_oddsFrom_170 : decode cX11_oddsFrom 170 = .ok (.iload 6, 2) := by decide +kernel
theorem dX11_oddsFrom_172 : decode cX11_oddsFrom 172 = .ok (.aload_n 0, 1) := by decide +kernel
theorem dX11_oddsFrom_173 : decode cX11_oddsFrom 173 = .ok (.iload_n 1, 1) := by decide +kernel
theorem dX11_oddsFrom_174 : decode cX11_oddsFrom 174 = .ok (.iconst 1, 1) := by decide +kernel
theorem dX11_oddsFrom_175 : decode cX11_oddsFrom 175 = .ok (.isub, 1) := by decide +kernel
theorem dX11_oddsFrom_176 : decode cX11_oddsFrom 176 = .ok (.iload_n 2, 1) := by decide +kernel
theorem dX11_oddsFrom_177 : decode cX11_oddsFrom 177 = .ok (.iload_n 3, 1) := by decide +kernel
theorem dX11_oddsFrom_178 : decode cX11_oddsFrom 178 = .ok (.iload 7, 2) := by decide +kernel
theorem dX11_oddsFrom_180 : decode cX11_oddsFrom 180 = .ok (.iconst 1, 1) := by decide +kernel
theorem dX11_oddsFrom_181 : decode cX11_oddsFrom 181 = .ok (.if_icmp .ne 8, 3) := by decide +kernel
theorem dX11_oddsFrom_184 : decode cX11_oddsFrom 184 = .ok (.iload 5, 2) := by decide +kernel
theorem dX11_oddsFrom_186 : decode cX11_oddsFrom 186 = .ok (.goto 8, 3) := by decide +kernel
theorem dX11_oddsFrom_189 : decode cX11_oddsFrom 189 = .ok (.iload 4, 2) := by decide +kernel
theorem dX11_oddsFrom_191 : decode cX11_oddsFrom 191 = .ok (.iload 5, 2) := by decide +kernel
theorem dX11_oddsFrom_193 : decode cX11_oddsFrom 193 = .ok (.isub, 1) := by decide +kernel
theorem dX11_oddsFrom_194 : decode cX11_oddsFrom 194 = .ok (.invokevirtual 507, 3) := by decide +kernel
theorem dX11_oddsFrom_197 : decode cX11_oddsFrom 197 = .ok (.iadd, 1) := by decide +kernel
theorem dX11_oddsFrom_198 : decode cX11_oddsFrom 198 = .ok (.istore 6, 2) := by decide +kernel
theorem dX11_oddsFrom_200 : decode cX11_oddsFrom 200 = .ok (.iinc 7 1, 3) := by decide +kernel
theorem dX11_oddsFrom_203 : decode cX11_oddsFrom 203 = .ok (.goto (-116), 3) := by decide +kernel
theorem dX11_oddsFrom_206 : decode cX11_oddsFrom 206 = .ok (.iload 6, 2) := by decide +kernel
theorem dX11_oddsFrom_208 : decode cX11_oddsFrom 208 = .ok (.ireturn, 1) := by decide +kernel
def f_Model_oddsFrom_L34 (rc : Nat → Mem → Int32 → Int32 → Int32 → Int32 → Option (Int32 × Mem)) (x1 : Int32) (x2 : Int32) (x3 : Int32) (x4 : Int32) (a : Mem × Int32) : Option ((Mem × Int32) ⊕ (Mem)) :=
  @Prod.casesOn (Mem) (Int32) (fun _ => Option ((Mem × Int32) ⊕ (Mem))) a fun τ z5 =>
  if (131 : Int32) ≤ z5 then
    some (.inr τ)
  else
    if inb z5 131 then
      if inb (((131 : Int32) * x1) + z5) 917 then
        some (.inl ((sI τ 588 (((131 : Int32) * x1) + z5).toNatClampNeg (mI τ 579 z5.toNatClampNeg)), (z5 + (1 : Int32))))
      else none
    else none
def f_Model_oddsFrom_L96 (rc : Nat → Mem → Int32 → Int32 → Int32 → Int32 → Option (Int32 × Mem)) (x1 : Int32) (x2 : Int32) (x3 : Int32) (x4 : Int32) (y5 : Int32) (y6 : Int32) (y7 : Int32) (a : Mem × Int32) : Option ((Mem × Int32) ⊕ (Mem)) :=
  @Prod.casesOn (Mem) (Int32) (fun _ => Option ((Mem × Int32) ⊕ (Mem))) a fun τ z8 =>
  if (131 : Int32) ≤ z8 then
    some (.inr τ)
  else
    if inb (((131 : Int32) * x1) + z8) 917 then
      if inb z8 131 then
        some (.inl ((sI τ 579 z8.toNatClampNeg (mI τ 588 (((131 : Int32) * x1) + z8).toNatClampNeg)), (z8 + (1 : Int32))))
      else none
    else none
def f_Model_oddsFrom_L87 (rc : Nat → Mem → Int32 → Int32 → Int32 → Int32 → Option (Int32 × Mem)) (x1 : Int32) (x2 : Int32) (x3 : Int32) (x4 : Int32) (y5 : Int32) (a : Mem × Int32 × Int32) : Option ((Mem × Int32 × Int32) ⊕ (Int32 × Mem)) :=
  @Prod.casesOn (Mem) (Int32 × Int32) (fun _ => Option ((Mem × Int32 × Int32) ⊕ (Int32 × Mem))) a fun τ b0 =>
  @Prod.casesOn (Int32) (Int32) (fun _ => Option ((Mem × Int32 × Int32) ⊕ (Int32 × Mem))) b0 fun z6 z7 =>
  if (2 : Int32) ≤ z7 then
    some (.inr (z6, τ))
  else
    (loopF (f_Model_oddsFrom_L96 rc x1 x2 x3 x4 y5 z6 z7) FU (τ, (0 : Int32))).bind fun w10 =>
    if z7 = (1 : Int32) then
      (f_Model_passes (sI w10 579 (128 : Int32).toNatClampNeg (15 : Int32)) 579).bind fun q16 =>
      if z7 = (1 : Int32) then
        (rc 0 (sI q16 579 (128 : Int32).toNatClampNeg (mI q16 578 (128 : Int32).toNatClampNeg)) (x1 - (1 : Int32)) x2 x3 y5).bind fun q19 =>
        some (.inl (q19.2, (z6 + q19.1), (z7 + (1 : Int32))))
      else
        (rc 0 (sI q16 579 (128 : Int32).toNatClampNeg (mI q16 578 (128 : Int32).toNatClampNeg)) (x1 - (1 : Int32)) x2 x3 (x4 - y5)).bind fun q18 =>
        some (.inl (q18.2, (z6 + q18.1), (z7 + (1 : Int32))))
    else
      (f_Model_passes w10 579).bind fun q12 =>
      if z7 = (1 : Int32) then
        (rc 0 (sI q12 579 (128 : Int32).toNatClampNeg (mI q12 578 (128 : Int32).toNatClampNeg)) (x1 - (1 : Int32)) x2 x3 y5).bind fun q15 =>
        some (.inl (q15.2, (z6 + q15.1), (z7 + (1 : Int32))))
      else
        (rc 0 (sI q12 579 (128 : Int32).toNatClampNeg (mI q12 578 (128 : Int32).toNatClampNeg)) (x1 - (1 : Int32)) x2 x3 (x4 - y5)).bind fun q14 =>
        some (.inl (q14.2, (z6 + q14.1), (z7 + (1 : Int32))))
def f_Model_oddsFrom (rc : Nat → Mem → Int32 → Int32 → Int32 → Int32 → Option (Int32 × Mem)) (σ : Mem) (x1 : Int32) (x2 : Int32) (x3 : Int32) (x4 : Int32) : Option (Int32 × Mem) :=
  if x1 = (0 : Int32) then
    (f_Model_allDue σ 579).bind fun q20 =>
    if ((mI σ 579 (129 : Int32).toNatClampNeg) + q20) < x2 then
      some ((0 : Int32), σ)
    else
      some (x4, σ)
  else
    (loopF (f_Model_oddsFrom_L34 rc x1 x2 x3 x4) FU (σ, (0 : Int32))).bind fun w5 =>
    loopF (f_Model_oddsFrom_L87 rc x1 x2 x3 x4 ((((((x4).toInt64) * ((x3).toInt64)) / (100 : Int64))).toInt32)) FU (w5, (0 : Int32), (0 : Int32))
set_option maxHeartbeats 4000000 in
set_option maxRecDepth 20000 in
theorem gs_Model_oddsFrom_L34 (X : Cx θ p s m args c cX11_oddsFrom 9 RX11) (hr : meth.sig.returnType = some .int) (hlk : meth.locks = false) {rc : Nat → Mem → Int32 → Int32 → Int32 → Int32 → Option (Int32 × Mem)} {nr : Nat} (hrec0 : ∀ {σ : Mem} {x1 : Int32} {x2 : Int32} {x3 : Int32} {x4 : Int32} {r : Int32 × Mem}, rc 0 σ x1 x2 x3 x4 = some r → Cn θ l yX11_oddsFrom cX11_oddsFrom 9 (some .int) (65 + nr) 0 0 [.ref (be θ + 565), .int x1, .int x2, .int x3, .int x4] σ (some (.int r.1), r.2))  {x1 : Int32} {x2 : Int32} {x3 : Int32} {x4 : Int32} {r : Int32 × Mem}  (τ : Mem) (z5 : Int32) (x : (Mem × Int32) ⊕ (Mem)) (h : f_Model_oddsFrom_L34 rc x1 x2 x3 x4 (τ, z5) = some x) (hk : Sum.elim (fun a => @Prod.casesOn (Mem) (Int32) (fun _ => Prop) a fun τ z5 => GB θ p l e (65 + nr + 1) s m args below meth c 9 (some (.int r.1), r.2) 34 [(0, .ref (be θ + 565)), (1, .int x1), (2, .int x2), (3, .int x3), (4, .int x4), (5, .int z5)] [] τ) (fun w => GB θ p l e (65 + nr + 1) s m args below meth c 9 (some (.int r.1), r.2) 68 [(0, .ref (be θ + 565)), (1, .int x1), (2, .int x2), (3, .int x3), (4, .int x4)] [] w) x) : GB θ p l e (65 + nr + 1) s m args below meth c 9 (some (.int r.1), r.2) 34 [(0, .ref (be θ + 565)), (1, .int x1), (2, .int x2), (3, .int x3), (4, .int x4), (5, .int z5)] [] τ := by
  unfold f_Model_oddsFrom_L34 at h
  dsimp only at h
  refine g_iload X dX11_oddsFrom_34 5 rfl ?_
  refine g_sipush X dX11_oddsFrom_36 (v := (131 : Int32)) sp_131 ?_
  refine g_icmp_ge (tgt := 68) X dX11_oddsFrom_39 (by decide) (fun c2 => ?_) (fun c2 => ?_)
  · replace h := (if_pos c2).symm.trans h
    have hk := inr_hk h hk
    exact g_sub (lv' := [(0, .ref (be θ + 565)), (1, .int x1), (2, .int x2), (3, .int x3), (4, .int x4)]) [0, 1, 2, 3, 4] rfl hk
  · replace h := (if_neg c2).symm.trans h
    refine g_aload_n X dX11_oddsFrom_42 rfl 0 rfl ?_
    refine g_get X fl_RX11_106 dX11_oddsFrom_43 kd_565 (v := .ref (be θ + 588)) rfl ?_
    refine g_sipush X dX11_oddsFrom_46 (v := (131 : Int32)) sp_131 ?_
    refine g_iload_n X dX11_oddsFrom_49 rfl 1 rfl ?_
    refine g_imul X dX11_oddsFrom_50 ?_
    refine g_iload X dX11_oddsFrom_51 5 rfl ?_
    refine g_iadd X dX11_oddsFrom_53 ?_
    refine g_aload_n X dX11_oddsFrom_54 rfl 0 rfl ?_
    refine g_get X fl_RX11_64 dX11_oddsFrom_55 kd_565 (v := .ref (be θ + 579)) rfl ?_
    refine g_iload X dX11_oddsFrom_58 5 rfl ?_
    obtain ⟨g3, h⟩ := ite_some h
    refine g_iald X kd_579 ln_579 (inb_in g3) dX11_oddsFrom_60 ?_
    obtain ⟨g4, h⟩ := ite_some h
    refine g_iast X kd_588 ln_588 (inb_in g4) dX11_oddsFrom_61 ?_
    refine g_iinc X dX11_oddsFrom_62 (kq := 5) rfl (congrArg (HAdd.hAdd _) ic_1) (by decide) (lv' := [(5, .int (z5 + (1 : Int32))), (0, .ref (be θ + 565)), (1, .int x1), (2, .int x2), (3, .int x3), (4, .int x4)]) rfl ?_
    refine g_goto (tgt := 34) X dX11_oddsFrom_65 (by decide) ?_
    have hk := inl_hk h hk
    exact g_sub (lv' := [(0, .ref (be θ + 565)), (1, .int x1), (2, .int x2), (3, .int x3), (4, .int x4), (5, .int (z5 + (1 : Int32)))]) [1, 2, 3, 4, 5, 0] rfl hk
set_option maxHeartbeats 4000000 in
set_option maxRecDepth 20000 in
theorem gl_Model_oddsFrom_L34 (X : Cx θ p s m args c cX11_oddsFrom 9 RX11) (hr : meth.sig.returnType = some .int) (hlk : meth.locks = false) {rc : Nat → Mem → Int32 → Int32 → Int32 → Int32 → Option (Int32 × Mem)} {nr : Nat} (hrec0 : ∀ {σ : Mem} {x1 : Int32} {x2 : Int32} {x3 : Int32} {x4 : Int32} {r : Int32 × Mem}, rc 0 σ x1 x2 x3 x4 = some r → Cn θ l yX11_oddsFrom cX11_oddsFrom 9 (some .int) (65 + nr) 0 0 [.ref (be θ + 565), .int x1, .int x2, .int x3, .int x4] σ (some (.int r.1), r.2))  {x1 : Int32} {x2 : Int32} {x3 : Int32} {x4 : Int32} {r : Int32 × Mem}  (n : Nat) (a : Mem × Int32) (b : Mem) (h : loopF (f_Model_oddsFrom_L34 rc x1 x2 x3 x4) n a = some b) (hk : (fun w => GB θ p l e (65 + nr + 1) s m args below meth c 9 (some (.int r.1), r.2) 68 [(0, .ref (be θ + 565)), (1, .int x1), (2, .int x2), (3, .int x3), (4, .int x4)] [] w) b) : (fun a => @Prod.casesOn (Mem) (Int32) (fun _ => Prop) a fun τ z5 => GB θ p l e (65 + nr + 1) s m args below meth c 9 (some (.int r.1), r.2) 34 [(0, .ref (be θ + 565)), (1, .int x1), (2, .int x2), (3, .int x3), (4, .int x4), (5, .int z5)] [] τ) a :=
  loopF_by (P := (fun a => @Prod.casesOn (Mem) (Int32) (fun _ => Prop) a fun τ z5 => GB θ p l e (65 + nr + 1) s m args below meth c 9 (some (.int r.1), r.2) 34 [(0, .ref (be θ + 565)), (1, .int x1), (2, .int x2), (3, .int x3), (4, .int x4), (5, .int z5)] [] τ)) (K := (fun w => GB θ p l e (65 + nr + 1) s m args below meth c 9 (some (.int r.1), r.2) 68 [(0, .ref (be θ + 565)), (1, .int x1), (2, .int x2), (3, .int x3), (4, .int x4)] [] w)) (fun a x h hk => by obtain ⟨τ, z5⟩ := a; exact gs_Model_oddsFrom_L34 X hr hlk hrec0  τ z5 x h hk) n a b h hk
set_option maxHeartbeats 4000000 in
set_option maxRecDepth 20000 in
theorem gs_Model_oddsFrom_L96 (X : Cx θ p s m args c cX11_oddsFrom 9 RX11) (hr : meth.sig.returnType = some .int) (hlk : meth.locks = false) {rc : Nat → Mem → Int32 → Int32 → Int32 → Int32 → Option (Int32 × Mem)} {nr : Nat} (hrec0 : ∀ {σ : Mem} {x1 : Int32} {x2 : Int32} {x3 : Int32} {x4 : Int32} {r : Int32 × Mem}, rc 0 σ x1 x2 x3 x4 = some r → Cn θ l yX11_oddsFrom cX11_oddsFrom 9 (some .int) (65 + nr) 0 0 [.ref (be θ + 565), .int x1, .int x2, .int x3, .int x4] σ (some (.int r.1), r.2))  {x1 : Int32} {x2 : Int32} {x3 : Int32} {x4 : Int32} {y5 : Int32} {y6 : Int32} {y7 : Int32} {r : Int32 × Mem}  (τ : Mem) (z8 : Int32) (x : (Mem × Int32) ⊕ (Mem)) (h : f_Model_oddsFrom_L96 rc x1 x2 x3 x4 y5 y6 y7 (τ, z8) = some x) (hk : Sum.elim (fun a => @Prod.casesOn (Mem) (Int32) (fun _ => Prop) a fun τ z8 => GB θ p l e (65 + nr + 1) s m args below meth c 9 (some (.int r.1), r.2) 96 [(0, .ref (be θ + 565)), (1, .int x1), (2, .int x2), (3, .int x3), (4, .int x4), (5, .int y5), (6, .int y6), (7, .int y7), (8, .int z8)] [] τ) (fun w => GB θ p l e (65 + nr + 1) s m args below meth c 9 (some (.int r.1), r.2) 130 [(0, .ref (be θ + 565)), (1, .int x1), (2, .int x2), (3, .int x3), (4, .int x4), (5, .int y5), (6, .int y6), (7, .int y7)] [] w) x) : GB θ p l e (65 + nr + 1) s m args below meth c 9 (some (.int r.1), r.2) 96 [(0, .ref (be θ + 565)), (1, .int x1), (2, .int x2), (3, .int x3), (4, .int x4), (5, .int y5), (6, .int y6), (7, .int y7), (8, .int z8)] [] τ := by
  unfold f_Model_oddsFrom_L96 at h
  dsimp only at h
  refine g_iload X dX11_oddsFrom_96 8 rfl ?_
  refine g_sipush X dX11_oddsFrom_98 (v := (131 : Int32)) sp_131 ?_
  refine g_icmp_ge (tgt := 130) X dX11_oddsFrom_101 (by decide) (fun c7 => ?_) (fun c7 => ?_)
  · replace h := (if_pos c7).symm.trans h
    have hk := inr_hk h hk
    exact g_sub (lv' := [(0, .ref (be θ + 565)), (1, .int x1), (2, .int x2), (3, .int x3), (4, .int x4), (5, .int y5), (6, .int y6), (7, .int y7)]) [0, 1, 2, 3, 4, 5, 6, 7] rfl hk
  · replace h := (if_neg c7).symm.trans h
    refine g_aload_n X dX11_oddsFrom_104 rfl 0 rfl ?_
    refine g_get X fl_RX11_64 dX11_oddsFrom_105 kd_565 (v := .ref (be θ + 579)) rfl ?_
    refine g_iload X dX11_oddsFrom_108 8 rfl ?_
    refine g_aload_n X dX11_oddsFrom_110 rfl 0 rfl ?_
    refine g_get X fl_RX11_106 dX11_oddsFrom_111 kd_565 (v := .ref (be θ + 588)) rfl ?_
    refine g_sipush X dX11_oddsFrom_114 (v := (131 : Int32)) sp_131 ?_
    refine g_iload_n X dX11_oddsFrom_117 rfl 1 rfl ?_
    refine g_imul X dX11_oddsFrom_118 ?_
    refine g_iload X dX11_oddsFrom_119 8 rfl ?_
    refine g_iadd X dX11_oddsFrom_121 ?_
    obtain ⟨g8, h⟩ := ite_some h
    refine g_iald X kd_588 ln_588 (inb_in g8) dX11_oddsFrom_122 ?_
    obtain ⟨g9, h⟩ := ite_some h
    refine g_iast X kd_579 ln_579 (inb_in g9) dX11_oddsFrom_123 ?_
    refine g_iinc X dX11_oddsFrom_124 (kq := 8) rfl (congrArg (HAdd.hAdd _) ic_1) (by decide) (lv' := [(8, .int (z8 + (1 : Int32))), (0, .ref (be θ + 565)), (1, .int x1), (2, .int x2), (3, .int x3), (4, .int x4), (5, .int y5), (6, .int y6), (7, .int y7)]) rfl ?_
    refine g_goto (tgt := 96) X dX11_oddsFrom_127 (by decide) ?_
    have hk := inl_hk h hk
    exact g_sub (lv' := [(0, .ref (be θ + 565)), (1, .int x1), (2, .int x2), (3, .int x3), (4, .int x4), (5, .int y5), (6, .int y6), (7, .int y7), (8, .int (z8 + (1 : Int32)))]) [1, 2, 3, 4, 5, 6, 7, 8, 0] rfl hk
set_option maxHeartbeats 4000000 in
set_option maxRecDepth 20000 in
theorem gl_Model_oddsFrom_L96 (X : Cx θ p s m args c cX11_oddsFrom 9 RX11) (hr : meth.sig.returnType = some .int) (hlk : meth.locks = false) {rc : Nat → Mem → Int32 → Int32 → Int32 → Int32 → Option (Int32 × Mem)} {nr : Nat} (hrec0 : ∀ {σ : Mem} {x1 : Int32} {x2 : Int32} {x3 : Int32} {x4 : Int32} {r : Int32 × Mem}, rc 0 σ x1 x2 x3 x4 = some r → Cn θ l yX11_oddsFrom cX11_oddsFrom 9 (some .int) (65 + nr) 0 0 [.ref (be θ + 565), .int x1, .int x2, .int x3, .int x4] σ (some (.int r.1), r.2))  {x1 : Int32} {x2 : Int32} {x3 : Int32} {x4 : Int32} {y5 : Int32} {y6 : Int32} {y7 : Int32} {r : Int32 × Mem}  (n : Nat) (a : Mem × Int32) (b : Mem) (h : loopF (f_Model_oddsFrom_L96 rc x1 x2 x3 x4 y5 y6 y7) n a = some b) (hk : (fun w => GB θ p l e (65 + nr + 1) s m args below meth c 9 (some (.int r.1), r.2) 130 [(0, .ref (be θ + 565)), (1, .int x1), (2, .int x2), (3, .int x3), (4, .int x4), (5, .int y5), (6, .int y6), (7, .int y7)] [] w) b) : (fun a => @Prod.casesOn (Mem) (Int32) (fun _ => Prop) a fun τ z8 => GB θ p l e (65 + nr + 1) s m args below meth c 9 (some (.int r.1), r.2) 96 [(0, .ref (be θ + 565)), (1, .int x1), (2, .int x2), (3, .int x3), (4, .int x4), (5, .int y5), (6, .int y6), (7, .int y7), (8, .int z8)] [] τ) a :=
  loopF_by (P := (fun a => @Prod.casesOn (Mem) (Int32) (fun _ => Prop) a fun τ z8 => GB θ p l e (65 + nr + 1) s m args below meth c 9 (some (.int r.1), r.2) 96 [(0, .ref (be θ + 565)), (1, .int x1), (2, .int x2), (3, .int x3), (4, .int x4), (5, .int y5), (6, .int y6), (7, .int y7), (8, .int z8)] [] τ)) (K := (fun w => GB θ p l e (65 + nr + 1) s m args below meth c 9 (some (.int r.1), r.2) 130 [(0, .ref (be θ + 565)), (1, .int x1), (2, .int x2), (3, .int x3), (4, .int x4), (5, .int y5), (6, .int y6), (7, .int y7)] [] w)) (fun a x h hk => by obtain ⟨τ, z8⟩ := a; exact gs_Model_oddsFrom_L96 X hr hlk hrec0  τ z8 x h hk) n a b h hk
set_option maxHeartbeats 4000000 in
set_option maxRecDepth 20000 in
theorem gs_Model_oddsFrom_L87 (X : Cx θ p s m args c cX11_oddsFrom 9 RX11) (hr : meth.sig.returnType = some .int) (hlk : meth.locks = false) {rc : Nat → Mem → Int32 → Int32 → Int32 → Int32 → Option (Int32 × Mem)} {nr : Nat} (hrec0 : ∀ {σ : Mem} {x1 : Int32} {x2 : Int32} {x3 : Int32} {x4 : Int32} {r : Int32 × Mem}, rc 0 σ x1 x2 x3 x4 = some r → Cn θ l yX11_oddsFrom cX11_oddsFrom 9 (some .int) (65 + nr) 0 0 [.ref (be θ + 565), .int x1, .int x2, .int x3, .int x4] σ (some (.int r.1), r.2))  {x1 : Int32} {x2 : Int32} {x3 : Int32} {x4 : Int32} {y5 : Int32} {r : Int32 × Mem}  (τ : Mem) (z6 : Int32) (z7 : Int32) (x : (Mem × Int32 × Int32) ⊕ (Int32 × Mem)) (h : f_Model_oddsFrom_L87 rc x1 x2 x3 x4 y5 (τ, z6, z7) = some x) (hk : Sum.elim (fun a => @Prod.casesOn (Mem) (Int32 × Int32) (fun _ => Prop) a fun τ b0 => @Prod.casesOn (Int32) (Int32) (fun _ => Prop) b0 fun z6 z7 => GB θ p l e (65 + nr + 1) s m args below meth c 9 (some (.int r.1), r.2) 87 [(0, .ref (be θ + 565)), (1, .int x1), (2, .int x2), (3, .int x3), (4, .int x4), (5, .int y5), (6, .int z6), (7, .int z7)] [] τ) (fun b => b = r) x) : GB θ p l e (65 + nr + 1) s m args below meth c 9 (some (.int r.1), r.2) 87 [(0, .ref (be θ + 565)), (1, .int x1), (2, .int x2), (3, .int x3), (4, .int x4), (5, .int y5), (6, .int z6), (7, .int z7)] [] τ := by
  unfold f_Model_oddsFrom_L87 at h
  dsimp only at h
  refine g_iload X dX11_oddsFrom_87 7 rfl ?_
  refine g_iconst X dX11_oddsFrom_89 (v := (2 : Int32)) ic_2 ?_
  refine g_icmp_ge (tgt := 206) X dX11_oddsFrom_90 (by decide) (fun c6 => ?_) (fun c6 => ?_)
  · replace h := (if_pos c6).symm.trans h
    refine g_iload X dX11_oddsFrom_206 6 rfl ?_
    have hk := inr_hk h hk
    have hk : (z6, τ) = r := hk
    subst hk
    exact g_iret X hr hlk dX11_oddsFrom_208 rfl
  · replace h := (if_neg c6).symm.trans h
    refine g_iconst X dX11_oddsFrom_93 (v := (0 : Int32)) ic_0 ?_
    refine g_istore X dX11_oddsFrom_94 (by decide) (lv' := [(8, .int (0 : Int32)), (0, .ref (be θ + 565)), (1, .int x1), (2, .int x2), (3, .int x3), (4, .int x4), (5, .int y5), (6, .int z6), (7, .int z7)]) rfl ?_
    obtain ⟨w10, hq10, h⟩ := Option.bind_eq_some_iff.mp h
    refine g_sub (lv' := [(0, .ref (be θ + 565)), (1, .int x1), (2, .int x2), (3, .int x3), (4, .int x4), (5, .int y5), (6, .int z6), (7, .int z7), (8, .int (0 : Int32))]) [1, 2, 3, 4, 5, 6, 7, 8, 0] rfl (gl_Model_oddsFrom_L96 X hr hlk hrec0   FU _ w10 hq10 ?_)
    refine g_iload X dX11_oddsFrom_130 7 rfl ?_
    refine g_iconst X dX11_oddsFrom_132 (v := (1 : Int32)) ic_1 ?_
    refine g_icmp_ne (tgt := 146) X dX11_oddsFrom_133 (by decide) (fun c11 => ?_) (fun c11 => ?_)
    · replace h := (if_neg c11).symm.trans h
      refine g_aload_n X dX11_oddsFrom_146 rfl 0 rfl ?_
      refine g_aload_n X dX11_oddsFrom_147 rfl 0 rfl ?_
      refine g_get X fl_RX11_64 dX11_oddsFrom_148 kd_565 (v := .ref (be θ + 579)) rfl ?_
      obtain ⟨q12, hq12, h⟩ := Option.bind_eq_some_iff.mp h
      refine g_cV X (c_Model_passes kd_579 hq12) lk_RX11_402 my_X11_passes (a := 565) (ci := 11) kd_565 (by decide) rfl (As := [.ref (be θ + 579)]) (rest := []) rfl rfl (Nat.le_of_ble_eq_true rfl) ⟨(by show 65 + 1 ≤ 65 + nr + 1; omega), (by show 8 + (3 + 11) + 40 * 65 ≤ 40 * (65 + nr + 1); omega)⟩ ⟨(Nat.le_of_ble_eq_true rfl), (Nat.le_of_ble_eq_true rfl)⟩ dX11_oddsFrom_151 (st' := []) (σ' := q12) rfl rfl ?_
      refine g_aload_n X dX11_oddsFrom_154 rfl 0 rfl ?_
      refine g_get X fl_RX11_64 dX11_oddsFrom_155 kd_565 (v := .ref (be θ + 579)) rfl ?_
      refine g_sipush X dX11_oddsFrom_158 (v := (128 : Int32)) sp_128 ?_
      refine g_aload_n X dX11_oddsFrom_161 rfl 0 rfl ?_
      refine g_get X fl_RX11_61 dX11_oddsFrom_162 kd_565 (v := .ref (be θ + 578)) rfl ?_
      refine g_sipush X dX11_oddsFrom_165 (v := (128 : Int32)) sp_128 ?_
      refine g_iald X kd_578 ln_578 (inb_in (show inb (128 : Int32) 312 = true by decide)) dX11_oddsFrom_168 ?_
      refine g_iast X kd_579 ln_579 (inb_in (show inb (128 : Int32) 131 = true by decide)) dX11_oddsFrom_169 ?_
      refine g_iload X dX11_oddsFrom_170 6 rfl ?_
      refine g_aload_n X dX11_oddsFrom_172 rfl 0 rfl ?_
      refine g_iload_n X dX11_oddsFrom_173 rfl 1 rfl ?_
      refine g_iconst X dX11_oddsFrom_174 (v := (1 : Int32)) ic_1 ?_
      refine g_isub X dX11_oddsFrom_175 ?_
      refine g_iload_n X dX11_oddsFrom_176 rfl 2 rfl ?_
      refine g_iload_n X dX11_oddsFrom_177 rfl 3 rfl ?_
      refine g_iload X dX11_oddsFrom_178 7 rfl ?_
      refine g_iconst X dX11_oddsFrom_180 (v := (1 : Int32)) ic_1 ?_
      refine g_icmp_ne (tgt := 189) X dX11_oddsFrom_181 (by decide) (fun c13 => ?_) (fun c13 => ?_)
      · replace h := (if_neg c13).symm.trans h
        refine g_iload X dX11_oddsFrom_189 4 rfl ?_
        refine g_iload X dX11_oddsFrom_191 5 rfl ?_
        refine g_isub X dX11_oddsFrom_193 ?_
        obtain ⟨q14, hq14, h⟩ := Option.bind_eq_some_iff.mp h
        refine g_cV X (hrec0  hq14) lk_RX11_507 my_X11_oddsFrom (a := 565) (ci := 11) kd_565 (by decide) rfl (As := [.int (x1 - (1 : Int32)), .int x2, .int x3, .int (x4 - y5)]) (rest := [.int z6]) rfl rfl (Nat.le_of_ble_eq_true rfl) ⟨Nat.le_refl _, (by show 8 + (9 + 11) + 40 * (65 + nr) ≤ 40 * (65 + nr + 1); omega)⟩ ⟨(Nat.le_of_ble_eq_true rfl), (Nat.le_of_ble_eq_true rfl)⟩ dX11_oddsFrom_194 (st' := [.int q14.1, .int z6]) (σ' := q14.2) rfl rfl ?_
        refine g_iadd X dX11_oddsFrom_197 ?_
        refine g_istore X dX11_oddsFrom_198 (by decide) (lv' := [(6, .int (z6 + q14.1)), (0, .ref (be θ + 565)), (1, .int x1), (2, .int x2), (3, .int x3), (4, .int x4), (5, .int y5), (7, .int z7)]) rfl ?_
        refine g_iinc X dX11_oddsFrom_200 (kq := 7) rfl (congrArg (HAdd.hAdd _) ic_1) (by decide) (lv' := [(7, .int (z7 + (1 : Int32))), (6, .int (z6 + q14.1)), (0, .ref (be θ + 565)), (1, .int x1), (2, .int x2), (3, .int x3), (4, .int x4), (5, .int y5)]) rfl ?_
        refine g_goto (tgt := 87) X dX11_oddsFrom_203 (by decide) ?_
        have hk := inl_hk h hk
        exact g_sub (lv' := [(0, .ref (be θ + 565)), (1, .int x1), (2, .int x2), (3, .int x3), (4, .int x4), (5, .int y5), (6, .int (z6 + q14.1)), (7, .int (z7 + (1 : Int32)))]) [2, 3, 4, 5, 6, 7, 1, 0] rfl hk
      · replace h := (if_pos c13).symm.trans h
        refine g_iload X dX11_oddsFrom_184 5 rfl ?_
        refine g_goto (tgt := 194) X dX11_oddsFrom_186 (by decide) ?_
        obtain ⟨q15, hq15, h⟩ := Option.bind_eq_some_iff.mp h
        refine g_cV X (hrec0  hq15) lk_RX11_507 my_X11_oddsFrom (a := 565) (ci := 11) kd_565 (by decide) rfl (As := [.int (x1 - (1 : Int32)), .int x2, .int x3, .int y5]) (rest := [.int z6]) rfl rfl (Nat.le_of_ble_eq_true rfl) ⟨Nat.le_refl _, (by show 8 + (9 + 11) + 40 * (65 + nr) ≤ 40 * (65 + nr + 1); omega)⟩ ⟨(Nat.le_of_ble_eq_true rfl), (Nat.le_of_ble_eq_true rfl)⟩ dX11_oddsFrom_194 (st' := [.int q15.1, .int z6]) (σ' := q15.2) rfl rfl ?_
        refine g_iadd X dX11_oddsFrom_197 ?_
        refine g_istore X dX11_oddsFrom_198 (by decide) (lv' := [(6, .int (z6 + q15.1)), (0, .ref (be θ + 565)), (1, .int x1), (2, .int x2), (3, .int x3), (4, .int x4), (5, .int y5), (7, .int z7)]) rfl ?_
        refine g_iinc X dX11_oddsFrom_200 (kq := 7) rfl (congrArg (HAdd.hAdd _) ic_1) (by decide) (lv' := [(7, .int (z7 + (1 : Int32))), (6, .int (z6 + q15.1)), (0, .ref (be θ + 565)), (1, .int x1), (2, .int x2), (3, .int x3), (4, .int x4), (5, .int y5)]) rfl ?_
        refine g_goto (tgt := 87) X dX11_oddsFrom_203 (by decide) ?_
        have hk := inl_hk h hk
        exact g_sub (lv' := [(0, .ref (be θ + 565)), (1, .int x1), (2, .int x2), (3, .int x3), (4, .int x4), (5, .int y5), (6, .int (z6 + q15.1)), (7, .int (z7 + (1 : Int32)))]) [2, 3, 4, 5, 6, 7, 1, 0] rfl hk
    · replace h := (if_pos c11).symm.trans h
      refine g_aload_n X dX11_oddsFrom_136 rfl 0 rfl ?_
      refine g_get X fl_RX11_64 dX11_oddsFrom_137 kd_565 (v := .ref (be θ + 579)) rfl ?_
      refine g_sipush X dX11_oddsFrom_140 (v := (128 : Int32)) sp_128 ?_
      refine g_bipush X dX11_oddsFrom_143 (v := (15 : Int32)) bp_15 ?_
      refine g_iast X kd_579 ln_579 (inb_in (show inb (128 : Int32) 131 = true by decide)) dX11_oddsFrom_145 ?_
      refine g_aload_n X dX11_oddsFrom_146 rfl 0 rfl ?_
      refine g_aload_n X dX11_oddsFrom_147 rfl 0 rfl ?_
      refine g_get X fl_RX11_64 dX11_oddsFrom_148 kd_565 (v := .ref (be θ + 579)) rfl ?_
      obtain ⟨q16, hq16, h⟩ := Option.bind_eq_some_iff.mp h
      refine g_cV X (c_Model_passes kd_579 hq16) lk_RX11_402 my_X11_passes (a := 565) (ci := 11) kd_565 (by decide) rfl (As := [.ref (be θ + 579)]) (rest := []) rfl rfl (Nat.le_of_ble_eq_true rfl) ⟨(by show 65 + 1 ≤ 65 + nr + 1; omega), (by show 8 + (3 + 11) + 40 * 65 ≤ 40 * (65 + nr + 1); omega)⟩ ⟨(Nat.le_of_ble_eq_true rfl), (Nat.le_of_ble_eq_true rfl)⟩ dX11_oddsFrom_151 (st' := []) (σ' := q16) rfl rfl ?_
      refine g_aload_n X dX11_oddsFrom_154 rfl 0 rfl ?_
      refine g_get X fl_RX11_64 dX11_oddsFrom_155 kd_565 (v := .ref (be θ + 579)) rfl ?_
      refine g_sipush X dX11_oddsFrom_158 (v := (128 : Int32)) sp_128 ?_
      refine g_aload_n X dX11_oddsFrom_161 rfl 0 rfl ?_
      refine g_get X fl_RX11_61 dX11_oddsFrom_162 kd_565 (v := .ref (be θ + 578)) rfl ?_
      refine g_sipush X dX11_oddsFrom_165 (v := (128 : Int32)) sp_128 ?_
      refine g_iald X kd_578 ln_578 (inb_in (show inb (128 : Int32) 312 = true by decide)) dX11_oddsFrom_168 ?_
      refine g_iast X kd_579 ln_579 (inb_in (show inb (128 : Int32) 131 = true by decide)) dX11_oddsFrom_169 ?_
      refine g_iload X dX11_oddsFrom_170 6 rfl ?_
      refine g_aload_n X dX11_oddsFrom_172 rfl 0 rfl ?_
      refine g_iload_n X dX11_oddsFrom_173 rfl 1 rfl ?_
      refine g_iconst X dX11_oddsFrom_174 (v := (1 : Int32)) ic_1 ?_
      refine g_isub X dX11_oddsFrom_175 ?_
      refine g_iload_n X dX11_oddsFrom_176 rfl 2 rfl ?_
      refine g_iload_n X dX11_oddsFrom_177 rfl 3 rfl ?_
      refine g_iload X dX11_oddsFrom_178 7 rfl ?_
      refine g_iconst X dX11_oddsFrom_180 (v := (1 : Int32)) ic_1 ?_
      refine g_icmp_ne (tgt := 189) X dX11_oddsFrom_181 (by decide) (fun c17 => ?_) (fun c17 => ?_)
      · replace h := (if_neg c17).symm.trans h
        refine g_iload X dX11_oddsFrom_189 4 rfl ?_
        refine g_iload X dX11_oddsFrom_191 5 rfl ?_
        refine g_isub X dX11_oddsFrom_193 ?_
        obtain ⟨q18, hq18, h⟩ := Option.bind_eq_some_iff.mp h
        refine g_cV X (hrec0  hq18) lk_RX11_507 my_X11_oddsFrom (a := 565) (ci := 11) kd_565 (by decide) rfl (As := [.int (x1 - (1 : Int32)), .int x2, .int x3, .int (x4 - y5)]) (rest := [.int z6]) rfl rfl (Nat.le_of_ble_eq_true rfl) ⟨Nat.le_refl _, (by show 8 + (9 + 11) + 40 * (65 + nr) ≤ 40 * (65 + nr + 1); omega)⟩ ⟨(Nat.le_of_ble_eq_true rfl), (Nat.le_of_ble_eq_true rfl)⟩ dX11_oddsFrom_194 (st' := [.int q18.1, .int z6]) (σ' := q18.2) rfl rfl ?_
        refine g_iadd X dX11_oddsFrom_197 ?_
        refine g_istore X dX11_oddsFrom_198 (by decide) (lv' := [(6, .int (z6 + q18.1)), (0, .ref (be θ + 565)), (1, .int x1), (2, .int x2), (3, .int x3), (4, .int x4), (5, .int y5), (7, .int z7)]) rfl ?_
        refine g_iinc X dX11_oddsFrom_200 (kq := 7) rfl (congrArg (HAdd.hAdd _) ic_1) (by decide) (lv' := [(7, .int (z7 + (1 : Int32))), (6, .int (z6 + q18.1)), (0, .ref (be θ + 565)), (1, .int x1), (2, .int x2), (3, .int x3), (4, .int x4), (5, .int y5)]) rfl ?_
        refine g_goto (tgt := 87) X dX11_oddsFrom_203 (by decide) ?_
        have hk := inl_hk h hk
        exact g_sub (lv' := [(0, .ref (be θ + 565)), (1, .int x1), (2, .int x2), (3, .int x3), (4, .int x4), (5, .int y5), (6, .int (z6 + q18.1)), (7, .int (z7 + (1 : Int32)))]) [2, 3, 4, 5, 6, 7, 1, 0] rfl hk
      · replace h := (if_pos c17).symm.trans h
        refine g_iload X dX11_oddsFrom_184 5 rfl ?_
        refine g_goto (tgt := 194) X dX11_oddsFrom_186 (by decide) ?_
        obtain ⟨q19, hq19, h⟩ := Option.bind_eq_some_iff.mp h
        refine g_cV X (hrec0  hq19) lk_RX11_507 my_X11_oddsFrom (a := 565) (ci := 11) kd_565 (by decide) rfl (As := [.int (x1 - (1 : Int32)), .int x2, .int x3, .int y5]) (rest := [.int z6]) rfl rfl (Nat.le_of_ble_eq_true rfl) ⟨Nat.le_refl _, (by show 8 + (9 + 11) + 40 * (65 + nr) ≤ 40 * (65 + nr + 1); omega)⟩ ⟨(Nat.le_of_ble_eq_true rfl), (Nat.le_of_ble_eq_true rfl)⟩ dX11_oddsFrom_194 (st' := [.int q19.1, .int z6]) (σ' := q19.2) rfl rfl ?_
        refine g_iadd X dX11_oddsFrom_197 ?_
        refine g_istore X dX11_oddsFrom_198 (by decide) (lv' := [(6, .int (z6 + q19.1)), (0, .ref (be θ + 565)), (1, .int x1), (2, .int x2), (3, .int x3), (4, .int x4), (5, .int y5), (7, .int z7)]) rfl ?_
        refine g_iinc X dX11_oddsFrom_200 (kq := 7) rfl (congrArg (HAdd.hAdd _) ic_1) (by decide) (lv' := [(7, .int (z7 + (1 : Int32))), (6, .int (z6 + q19.1)), (0, .ref (be θ + 565)), (1, .int x1), (2, .int x2), (3, .int x3), (4, .int x4), (5, .int y5)]) rfl ?_
        refine g_goto (tgt := 87) X dX11_oddsFrom_203 (by decide) ?_
        have hk := inl_hk h hk
        exact g_sub (lv' := [(0, .ref (be θ + 565)), (1, .int x1), (2, .int x2), (3, .int x3), (4, .int x4), (5, .int y5), (6, .int (z6 + q19.1)), (7, .int (z7 + (1 : Int32)))]) [2, 3, 4, 5, 6, 7, 1, 0] rfl hk
set_option maxHeartbeats 4000000 in
set_option maxRecDepth 20000 in
theorem gl_Model_oddsFrom_L87 (X : Cx θ p s m args c cX11_oddsFrom 9 RX11) (hr : meth.sig.returnType = some .int) (hlk : meth.locks = false) {rc : Nat → Mem → Int32 → Int32 → Int32 → Int32 → Option (Int32 × Mem)} {nr : Nat} (hrec0 : ∀ {σ : Mem} {x1 : Int32} {x2 : Int32} {x3 : Int32} {x4 : Int32} {r : Int32 × Mem}, rc 0 σ x1 x2 x3 x4 = some r → Cn θ l yX11_oddsFrom cX11_oddsFrom 9 (some .int) (65 + nr) 0 0 [.ref (be θ + 565), .int x1, .int x2, .int x3, .int x4] σ (some (.int r.1), r.2))  {x1 : Int32} {x2 : Int32} {x3 : Int32} {x4 : Int32} {y5 : Int32} {r : Int32 × Mem}  (n : Nat) (a : Mem × Int32 × Int32) (b : Int32 × Mem) (h : loopF (f_Model_oddsFrom_L87 rc x1 x2 x3 x4 y5) n a = some b) (hk : (fun b => b = r) b) : (fun a => @Prod.casesOn (Mem) (Int32 × Int32) (fun _ => Prop) a fun τ b0 => @Prod.casesOn (Int32) (Int32) (fun _ => Prop) b0 fun z6 z7 => GB θ p l e (65 + nr + 1) s m args below meth c 9 (some (.int r.1), r.2) 87 [(0, .ref (be θ + 565)), (1, .int x1), (2, .int x2), (3, .int x3), (4, .int x4), (5, .int y5), (6, .int z6), (7, .int z7)] [] τ) a :=
  loopF_by (P := (fun a => @Prod.casesOn (Mem) (Int32 × Int32) (fun _ => Prop) a fun τ b0 => @Prod.casesOn (Int32) (Int32) (fun _ => Prop) b0 fun z6 z7 => GB θ p l e (65 + nr + 1) s m args below meth c 9 (some (.int r.1), r.2) 87 [(0, .ref (be θ + 565)), (1, .int x1), (2, .int x2), (3, .int x3), (4, .int x4), (5, .int y5), (6, .int z6), (7, .int z7)] [] τ)) (K := (fun b => b = r)) (fun a x h hk => by obtain ⟨τ, z6, z7⟩ := a; exact gs_Model_oddsFrom_L87 X hr hlk hrec0  τ z6 z7 x h hk) n a b h hk
set_option maxHeartbeats 4000000 in
set_option maxRecDepth 20000 in
theorem g_Model_oddsFrom (X : Cx θ p s m args c cX11_oddsFrom 9 RX11) (hr : meth.sig.returnType = some .int) (hlk : meth.locks = false) {rc : Nat → Mem → Int32 → Int32 → Int32 → Int32 → Option (Int32 × Mem)} {nr : Nat} (hrec0 : ∀ {σ : Mem} {x1 : Int32} {x2 : Int32} {x3 : Int32} {x4 : Int32} {r : Int32 × Mem}, rc 0 σ x1 x2 x3 x4 = some r → Cn θ l yX11_oddsFrom cX11_oddsFrom 9 (some .int) (65 + nr) 0 0 [.ref (be θ + 565), .int x1, .int x2, .int x3, .int x4] σ (some (.int r.1), r.2))  {σ : Mem} {x1 : Int32} {x2 : Int32} {x3 : Int32} {x4 : Int32} {r : Int32 × Mem}  (h : f_Model_oddsFrom rc σ x1 x2 x3 x4 = some r) : GB θ p l e (65 + nr + 1) s m args below meth c 9 (some (.int r.1), r.2) 0 [(0, .ref (be θ + 565)), (1, .int x1), (2, .int x2), (3, .int x3), (4, .int x4)] [] σ := by
  unfold f_Model_oddsFrom at h
  refine g_iload_n X dX11_oddsFrom_0 rfl 1 rfl ?_
  refine g_if_ne (tgt := 31) X dX11_oddsFrom_1 (by decide) (fun c1 => ?_) (fun c1 => ?_)
  · replace h := (if_neg c1).symm.trans h
    refine g_iconst X dX11_oddsFrom_31 (v := (0 : Int32)) ic_0 ?_
    refine g_istore X dX11_oddsFrom_32 (by decide) (lv' := [(5, .int (0 : Int32)), (0, .ref (be θ + 565)), (1, .int x1), (2, .int x2), (3, .int x3), (4, .int x4)]) rfl ?_
    obtain ⟨w5, hq5, h⟩ := Option.bind_eq_some_iff.mp h
    refine g_sub (lv' := [(0, .ref (be θ + 565)), (1, .int x1), (2, .int x2), (3, .int x3), (4, .int x4), (5, .int (0 : Int32))]) [1, 2, 3, 4, 5, 0] rfl (gl_Model_oddsFrom_L34 X hr hlk hrec0   FU _ w5 hq5 ?_)
    refine g_iload X dX11_oddsFrom_68 4 rfl ?_
    refine g_i2l X dX11_oddsFrom_70 (v := ((x4).toInt64)) rfl ?_
    refine g_iload_n X dX11_oddsFrom_71 rfl 3 rfl ?_
    refine g_i2l X dX11_oddsFrom_72 (v := ((x3).toInt64)) rfl ?_
    refine g_lmul X dX11_oddsFrom_73 ?_
    refine g_ldc2 X cst_RX11_335 dX11_oddsFrom_74 ?_
    refine g_ldiv X dX11_oddsFrom_77 (by decide) ?_
    refine g_l2i X dX11_oddsFrom_78 (v := ((((((x4).toInt64) * ((x3).toInt64)) / (100 : Int64))).toInt32)) rfl ?_
    refine g_istore X dX11_oddsFrom_79 (by decide) (lv' := [(5, .int ((((((x4).toInt64) * ((x3).toInt64)) / (100 : Int64))).toInt32)), (0, .ref (be θ + 565)), (1, .int x1), (2, .int x2), (3, .int x3), (4, .int x4)]) rfl ?_
    refine g_iconst X dX11_oddsFrom_81 (v := (0 : Int32)) ic_0 ?_
    refine g_istore X dX11_oddsFrom_82 (by decide) (lv' := [(6, .int (0 : Int32)), (5, .int ((((((x4).toInt64) * ((x3).toInt64)) / (100 : Int64))).toInt32)), (0, .ref (be θ + 565)), (1, .int x1), (2, .int x2), (3, .int x3), (4, .int x4)]) rfl ?_
    refine g_iconst X dX11_oddsFrom_84 (v := (0 : Int32)) ic_0 ?_
    refine g_istore X dX11_oddsFrom_85 (by decide) (lv' := [(7, .int (0 : Int32)), (6, .int (0 : Int32)), (5, .int ((((((x4).toInt64) * ((x3).toInt64)) / (100 : Int64))).toInt32)), (0, .ref (be θ + 565)), (1, .int x1), (2, .int x2), (3, .int x3), (4, .int x4)]) rfl ?_
    exact g_sub (lv' := [(0, .ref (be θ + 565)), (1, .int x1), (2, .int x2), (3, .int x3), (4, .int x4), (5, .int ((((((x4).toInt64) * ((x3).toInt64)) / (100 : Int64))).toInt32)), (6, .int (0 : Int32)), (7, .int (0 : Int32))]) [3, 4, 5, 6, 7, 2, 1, 0] rfl (gl_Model_oddsFrom_L87 X hr hlk hrec0   FU _ _ h rfl)
  · replace h := (if_pos c1).symm.trans h
    refine g_aload_n X dX11_oddsFrom_4 rfl 0 rfl ?_
    refine g_get X fl_RX11_64 dX11_oddsFrom_5 kd_565 (v := .ref (be θ + 579)) rfl ?_
    refine g_sipush X dX11_oddsFrom_8 (v := (129 : Int32)) sp_129 ?_
    refine g_iald X kd_579 ln_579 (inb_in (show inb (129 : Int32) 131 = true by decide)) dX11_oddsFrom_11 ?_
    refine g_aload_n X dX11_oddsFrom_12 rfl 0 rfl ?_
    refine g_get X fl_RX11_64 dX11_oddsFrom_13 kd_565 (v := .ref (be θ + 579)) rfl ?_
    obtain ⟨q20, hq20, h⟩ := Option.bind_eq_some_iff.mp h
    refine g_cS X (c_Model_allDue kd_579 hq20) lk_RX11_471 my_X11_allDue (As := [.ref (be θ + 579)]) (rest := [.int (mI σ 579 (129 : Int32).toNatClampNeg)]) rfl rfl (Nat.le_of_ble_eq_true rfl) ⟨(by show 0 + 1 ≤ 65 + nr + 1; omega), (by show 8 + (3 + 11) + 40 * 0 ≤ 40 * (65 + nr + 1); omega)⟩ ⟨(Nat.le_of_ble_eq_true rfl), (Nat.le_of_ble_eq_true rfl)⟩ dX11_oddsFrom_16 (st' := [.int q20, .int (mI σ 579 (129 : Int32).toNatClampNeg)]) (σ' := σ) rfl rfl ?_
    refine g_iadd X dX11_oddsFrom_19 ?_
    refine g_iload_n X dX11_oddsFrom_20 rfl 2 rfl ?_
    refine g_icmp_lt (tgt := 29) X dX11_oddsFrom_21 (by decide) (fun c21 => ?_) (fun c21 => ?_)
    · replace h := (if_pos c21).symm.trans h
      refine g_iconst X dX11_oddsFrom_29 (v := (0 : Int32)) ic_0 ?_
      exact g_iret X hr hlk dX11_oddsFrom_30 (by cases h; rfl)
    · replace h := (if_neg c21).symm.trans h
      refine g_iload X dX11_oddsFrom_24 4 rfl ?_
      refine g_goto (tgt := 30) X dX11_oddsFrom_26 (by decide) ?_
      exact g_iret X hr hlk dX11_oddsFrom_30 (by cases h; rfl)
def f_OF : Nat → Nat → Mem → Int32 → Int32 → Int32 → Int32 → Option (Int32 × Mem)
  | 0 => fun _ _ _ _ _ _ => none
  | n + 1 => fun no σ z0 z1 z2 z3 => f_Model_oddsFrom (f_OF n) σ z0 z1 z2 z3
set_option maxHeartbeats 4000000 in
set_option maxRecDepth 100000 in
theorem a_OF {θ : Th} {l : Launch} : ∀ n : Nat, (∀ {σ : Mem} {x1 : Int32} {x2 : Int32} {x3 : Int32} {x4 : Int32} {r : Int32 × Mem}, f_OF n 0 σ x1 x2 x3 x4 = some r → Cn θ l yX11_oddsFrom cX11_oddsFrom 9 (some .int) (65 + n) 0 0 [.ref (be θ + 565), .int x1, .int x2, .int x3, .int x4] σ (some (.int r.1), r.2)) := by
  intro n
  induction n with
  | zero =>
    · intro σ x1 x2 x3 x4 r  h
      cases h
  | succ n ih =>
    have i0 := @ih
    · intro σ x1 x2 x3 x4 r  h
      exact Cn.of (by decide) (Nat.le_of_ble_eq_true rfl) (fun p e s m below meth c X hr hlk => g_Model_oddsFrom (nr := n) (rc := f_OF n) X hr hlk i0  h)
set_option maxRecDepth 100000 in
theorem c_OF_0 {θ : Th} {l : Launch} : ∀ {σ : Mem} {x1 : Int32} {x2 : Int32} {x3 : Int32} {x4 : Int32} {r : Int32 × Mem}, f_OF 8 0 σ x1 x2 x3 x4 = some r → Cn θ l yX11_oddsFrom cX11_oddsFrom 9 (some .int) 73 0 0 [.ref (be θ + 565), .int x1, .int x2, .int x3, .int x4] σ (some (.int r.1), r.2) := (a_OF 8)
end Z17
