/-! constructors without loops (laid by wip/tools/ini.py) -/
theorem oiI : Cond.instanceMethod Lib.objectInit ∈ ALL := allT1 31 (by decide +kernel) rfl
theorem oiC : Cond.code Lib.objectInit ⟨#[0xb1]⟩ 1 none ∈ ALL := allT1 32 (by decide +kernel) rfl
theorem acI : Cond.arrayClass .int ∈ ALL := allT1 59 (by decide +kernel) rfl
theorem acB : Cond.arrayClass .byte ∈ ALL := allT6 170 (by decide +kernel) rfl
theorem acZ : Cond.arrayClass .boolean ∈ ALL := allT2 37 (by decide +kernel) rfl
theorem acL : Cond.arrayClass .long ∈ ALL := allT6 171 (by decide +kernel) rfl
theorem cl13 {θ : Th} {s : State} (h : Kn θ s) : s.vm.findClass ("[" ++ (newarray.typeOf .int).toString) = some (aC θ 13) := (h.2 0 _ rfl).2
theorem cl14 {θ : Th} {s : State} (h : Kn θ s) : s.vm.findClass ("[" ++ (newarray.typeOf .byte).toString) = some (aC θ 14) := (h.2 1 _ rfl).2
theorem cl15 {θ : Th} {s : State} (h : Kn θ s) : s.vm.findClass ("[" ++ (newarray.typeOf .boolean).toString) = some (aC θ 15) := (h.2 2 _ rfl).2
theorem cl16 {θ : Th} {s : State} (h : Kn θ s) : s.vm.findClass ("[" ++ (newarray.typeOf .long).toString) = some (aC θ 16) := (h.2 3 _ rfl).2

theorem dX8_init_0 : decode cX8_init 0 = .ok (.aload_n 0, 1) := by decide +kernel
theorem dX8_init_1 : decode cX8_init 1 = .ok (.invokespecial 3, 3) := by decide +kernel
theorem dX8_init_4 : decode cX8_init 4 = .ok (.aload_n 0, 1) := by decide +kernel
theorem dX8_init_5 : decode cX8_init 5 = .ok (.sipush 240, 3) := by decide +kernel
theorem dX8_init_8 : decode cX8_init 8 = .ok (.newarray .int, 2) := by decide +kernel
theorem dX8_init_10 : decode cX8_init 10 = .ok (.putfield 9, 3) := by decide +kernel
theorem dX8_init_13 : decode cX8_init 13 = .ok (.aload_n 0, 1) := by decide +kernel
theorem dX8_init_14 : decode cX8_init 14 = .ok (.iconst 0, 1) := by decide +kernel
theorem dX8_init_15 : decode cX8_init 15 = .ok (.putfield 15, 3) := by decide +kernel
theorem dX8_init_18 : decode cX8_init 18 = .ok (.aload_n 0, 1) := by decide +kernel
theorem dX8_init_19 : decode cX8_init 19 = .ok (.iconst 0, 1) := by decide +kernel
theorem dX8_init_20 : decode cX8_init 20 = .ok (.putfield 19, 3) := by decide +kernel
theorem dX8_init_23 : decode cX8_init 23 = .ok (.aload_n 0, 1) := by decide +kernel
theorem dX8_init_24 : decode cX8_init 24 = .ok (.iconst 0, 1) := by decide +kernel
theorem dX8_init_25 : decode cX8_init 25 = .ok (.putfield 22, 3) := by decide +kernel
theorem dX8_init_28 : decode cX8_init 28 = .ok (.return_, 1) := by decide +kernel
theorem mi_X8 : MyI yX8_init cX8_init 1 := ⟨⟨allT1 36 (by decide +kernel) rfl, allT1 2 (by decide +kernel) rfl, allT1 37 (by decide +kernel) rfl⟩, rfl, by decide +kernel, by decide +kernel, by decide +kernel⟩
theorem oi_X8 : Cond.methodLink RX8 3 Lib.objectInit ∈ ALL := allT1 38 (by decide +kernel) rfl
theorem fi_X8_9 : Fl RX8 9 8 0 := ⟨by decide, by decide, allT1 39 (by decide +kernel) rfl⟩
theorem fi_X8_15 : Fl RX8 15 8 1 := ⟨by decide, by decide, allT1 40 (by decide +kernel) rfl⟩
theorem fi_X8_19 : Fl RX8 19 8 2 := ⟨by decide, by decide, allT1 42 (by decide +kernel) rfl⟩
theorem fi_X8_22 : Fl RX8 22 8 3 := ⟨by decide, by decide, allT1 46 (by decide +kernel) rfl⟩
def iX8 (θ : Th) (V : Nat → Nat → Value) (o : Nat) : Nat → Nat → Value := (upC (upC (upC (upC (upR V (o + 1) (fun _ => .int 0)) o 0 (.ref (be θ + (o + 1)))) o 1 (.int (0 : Int32))) o 2 (.int (0 : Int32))) o 3 (.int (0 : Int32)))
set_option maxRecDepth 20000 in
theorem c_X8_init {θ : Th} {l : Launch} {V : Nat → Nat → Value} {o : Nat} (h0 : kd o = 9) (k1 : kd (o + 1) = 13) (n1 : ln (o + 1) = 240) : CnV θ l yX8_init cX8_init 1 1 1 240 [.ref (be θ + o)] V (o + 1) (iX8 θ V o) (o + 2) := by
  refine CnV.of (by decide) rfl (Nat.le_of_ble_eq_true rfl) fun p e s m below meth c X N hin hr hlk => ?_
  refine v_aload_n X dX8_init_0 rfl 0 rfl ?_
  refine v_objInit X oi_X8 oiI oiC ⟨by decide, by decide⟩ dX8_init_1 ?_
  refine v_aload_n X dX8_init_4 rfl 0 rfl ?_
  refine v_sipush X dX8_init_5 (v := (240 : Int32)) (by decide) ?_
  refine v_newa (atype := .int) (k := 13) (N := 240) (dv := .int 0) X k1 (by decide) n1 acI (cl13 X.2.1) rfl (by decide) (by decide) (by decide) (by decide) (by decide) dX8_init_8 ?_
  refine v_put X fi_X8_9 dX8_init_10 h0 (by omega) (Or.inr ⟨rfl, hin, rfl⟩) rfl rfl ?_
  refine v_aload_n X dX8_init_13 rfl 0 rfl ?_
  refine v_iconst X dX8_init_14 (v := (0 : Int32)) (by decide) ?_
  refine v_put X fi_X8_15 dX8_init_15 h0 (by omega) (Or.inl rfl) rfl rfl ?_
  refine v_aload_n X dX8_init_18 rfl 0 rfl ?_
  refine v_iconst X dX8_init_19 (v := (0 : Int32)) (by decide) ?_
  refine v_put X fi_X8_19 dX8_init_20 h0 (by omega) (Or.inl rfl) rfl rfl ?_
  refine v_aload_n X dX8_init_23 rfl 0 rfl ?_
  refine v_iconst X dX8_init_24 (v := (0 : Int32)) (by decide) ?_
  refine v_put X fi_X8_22 dX8_init_25 h0 (by omega) (Or.inl rfl) rfl rfl ?_
  exact v_vret X N hr hlk dX8_init_28 rfl
theorem dX2_init_0 : decode cX2_init 0 = .ok (.aload_n 0, 1) := by decide +kernel
theorem dX2_init_1 : decode cX2_init 1 = .ok (.invokespecial 3, 3) := by decide +kernel
theorem dX2_init_4 : decode cX2_init 4 = .ok (.aload_n 0, 1) := by decide +kernel
theorem dX2_init_5 : decode cX2_init 5 = .ok (.bipush 48, 2) := by decide +kernel
theorem dX2_init_7 : decode cX2_init 7 = .ok (.newarray .int, 2) := by decide +kernel
theorem dX2_init_9 : decode cX2_init 9 = .ok (.putfield 11, 3) := by decide +kernel
theorem dX2_init_12 : decode cX2_init 12 = .ok (.aload_n 0, 1) := by decide +kernel
theorem dX2_init_13 : decode cX2_init 13 = .ok (.iconst 0, 1) := by decide +kernel
theorem dX2_init_14 : decode cX2_init 14 = .ok (.putfield 15, 3) := by decide +kernel
theorem dX2_init_17 : decode cX2_init 17 = .ok (.return_, 1) := by decide +kernel
theorem mi_X2 : MyI yX2_init cX2_init 1 := ⟨⟨allT2 90 (by decide +kernel) rfl, allT1 11 (by decide +kernel) rfl, allT2 91 (by decide +kernel) rfl⟩, rfl, by decide +kernel, by decide +kernel, by decide +kernel⟩
theorem oi_X2 : Cond.methodLink RX2 3 Lib.objectInit ∈ ALL := allT2 92 (by decide +kernel) rfl
theorem fi_X2_11 : Fl RX2 11 2 0 := ⟨by decide, by decide, allT2 93 (by decide +kernel) rfl⟩
theorem fi_X2_15 : Fl RX2 15 2 1 := ⟨by decide, by decide, allT2 94 (by decide +kernel) rfl⟩
def iX2 (θ : Th) (V : Nat → Nat → Value) (o : Nat) : Nat → Nat → Value := (upC (upC (upR V (o + 1) (fun _ => .int 0)) o 0 (.ref (be θ + (o + 1)))) o 1 (.int (0 : Int32)))
set_option maxRecDepth 20000 in
theorem c_X2_init {θ : Th} {l : Launch} {V : Nat → Nat → Value} {o : Nat} (h0 : kd o = 3) (k1 : kd (o + 1) = 13) (n1 : ln (o + 1) = 48) : CnV θ l yX2_init cX2_init 1 1 1 48 [.ref (be θ + o)] V (o + 1) (iX2 θ V o) (o + 2) := by
  refine CnV.of (by decide) rfl (Nat.le_of_ble_eq_true rfl) fun p e s m below meth c X N hin hr hlk => ?_
  refine v_aload_n X dX2_init_0 rfl 0 rfl ?_
  refine v_objInit X oi_X2 oiI oiC ⟨by decide, by decide⟩ dX2_init_1 ?_
  refine v_aload_n X dX2_init_4 rfl 0 rfl ?_
  refine v_bipush X dX2_init_5 (v := (48 : Int32)) (by decide) ?_
  refine v_newa (atype := .int) (k := 13) (N := 48) (dv := .int 0) X k1 (by decide) n1 acI (cl13 X.2.1) rfl (by decide) (by decide) (by decide) (by decide) (by decide) dX2_init_7 ?_
  refine v_put X fi_X2_11 dX2_init_9 h0 (by omega) (Or.inr ⟨rfl, hin, rfl⟩) rfl rfl ?_
  refine v_aload_n X dX2_init_12 rfl 0 rfl ?_
  refine v_iconst X dX2_init_13 (v := (0 : Int32)) (by decide) ?_
  refine v_put X fi_X2_15 dX2_init_14 h0 (by omega) (Or.inl rfl) rfl rfl ?_
  exact v_vret X N hr hlk dX2_init_17 rfl
theorem dX5_init_0 : decode cX5_init 0 = .ok (.aload_n 0, 1) := by decide +kernel
theorem dX5_init_1 : decode cX5_init 1 = .ok (.invokespecial 3, 3) := by decide +kernel
theorem dX5_init_4 : decode cX5_init 4 = .ok (.aload_n 0, 1) := by decide +kernel
theorem dX5_init_5 : decode cX5_init 5 = .ok (.sipush 240, 3) := by decide +kernel
theorem dX5_init_8 : decode cX5_init 8 = .ok (.newarray .int, 2) := by decide +kernel
theorem dX5_init_10 : decode cX5_init 10 = .ok (.putfield 9, 3) := by decide +kernel
theorem dX5_init_13 : decode cX5_init 13 = .ok (.aload_n 0, 1) := by decide +kernel
theorem dX5_init_14 : decode cX5_init 14 = .ok (.bipush 32, 2) := by decide +kernel
theorem dX5_init_16 : decode cX5_init 16 = .ok (.newarray .int, 2) := by decide +kernel
theorem dX5_init_18 : decode cX5_init 18 = .ok (.putfield 15, 3) := by decide +kernel
theorem dX5_init_21 : decode cX5_init 21 = .ok (.aload_n 0, 1) := by decide +kernel
theorem dX5_init_22 : decode cX5_init 22 = .ok (.iconst 0, 1) := by decide +kernel
theorem dX5_init_23 : decode cX5_init 23 = .ok (.putfield 18, 3) := by decide +kernel
theorem dX5_init_26 : decode cX5_init 26 = .ok (.return_, 1) := by decide +kernel
theorem mi_X5 : MyI yX5_init cX5_init 1 := ⟨⟨allT2 75 (by decide +kernel) rfl, allT1 6 (by decide +kernel) rfl, allT2 76 (by decide +kernel) rfl⟩, rfl, by decide +kernel, by decide +kernel, by decide +kernel⟩
theorem oi_X5 : Cond.methodLink RX5 3 Lib.objectInit ∈ ALL := allT2 77 (by decide +kernel) rfl
theorem fi_X5_9 : Fl RX5 9 5 0 := ⟨by decide, by decide, allT2 78 (by decide +kernel) rfl⟩
theorem fi_X5_15 : Fl RX5 15 5 1 := ⟨by decide, by decide, allT2 79 (by decide +kernel) rfl⟩
theorem fi_X5_18 : Fl RX5 18 5 2 := ⟨by decide, by decide, allT2 80 (by decide +kernel) rfl⟩
def iX5 (θ : Th) (V : Nat → Nat → Value) (o : Nat) : Nat → Nat → Value := (upC (upC (upR (upC (upR V (o + 1) (fun _ => .int 0)) o 0 (.ref (be θ + (o + 1)))) (o + 2) (fun _ => .int 0)) o 1 (.ref (be θ + (o + 2)))) o 2 (.int (0 : Int32)))
set_option maxRecDepth 20000 in
theorem c_X5_init {θ : Th} {l : Launch} {V : Nat → Nat → Value} {o : Nat} (h0 : kd o = 6) (k1 : kd (o + 1) = 13) (n1 : ln (o + 1) = 240) (k2 : kd (o + 2) = 13) (n2 : ln (o + 2) = 32) : CnV θ l yX5_init cX5_init 1 1 2 272 [.ref (be θ + o)] V (o + 1) (iX5 θ V o) (o + 3) := by
  refine CnV.of (by decide) rfl (Nat.le_of_ble_eq_true rfl) fun p e s m below meth c X N hin hr hlk => ?_
  refine v_aload_n X dX5_init_0 rfl 0 rfl ?_
  refine v_objInit X oi_X5 oiI oiC ⟨by decide, by decide⟩ dX5_init_1 ?_
  refine v_aload_n X dX5_init_4 rfl 0 rfl ?_
  refine v_sipush X dX5_init_5 (v := (240 : Int32)) (by decide) ?_
  refine v_newa (atype := .int) (k := 13) (N := 240) (dv := .int 0) X k1 (by decide) n1 acI (cl13 X.2.1) rfl (by decide) (by decide) (by decide) (by decide) (by decide) dX5_init_8 ?_
  refine v_put X fi_X5_9 dX5_init_10 h0 (by omega) (Or.inr ⟨rfl, hin, rfl⟩) rfl rfl ?_
  refine v_aload_n X dX5_init_13 rfl 0 rfl ?_
  refine v_bipush X dX5_init_14 (v := (32 : Int32)) (by decide) ?_
  refine v_newa (atype := .int) (k := 13) (N := 32) (dv := .int 0) X k2 (by decide) n2 acI (cl13 X.2.1) rfl (by decide) (by decide) (by decide) (by decide) (by decide) dX5_init_16 ?_
  refine v_put X fi_X5_15 dX5_init_18 h0 (by omega) (Or.inr ⟨rfl, hin, rfl⟩) rfl rfl ?_
  refine v_aload_n X dX5_init_21 rfl 0 rfl ?_
  refine v_iconst X dX5_init_22 (v := (0 : Int32)) (by decide) ?_
  refine v_put X fi_X5_18 dX5_init_23 h0 (by omega) (Or.inl rfl) rfl rfl ?_
  exact v_vret X N hr hlk dX5_init_26 rfl
theorem dX1_init_0 : decode cX1_init 0 = .ok (.aload_n 0, 1) := by decide +kernel
theorem dX1_init_1 : decode cX1_init 1 = .ok (.invokespecial 5, 3) := by decide +kernel
theorem dX1_init_4 : decode cX1_init 4 = .ok (.aload_n 0, 1) := by decide +kernel
theorem dX1_init_5 : decode cX1_init 5 = .ok (.iconst 4, 1) := by decide +kernel
theorem dX1_init_6 : decode cX1_init 6 = .ok (.newarray .int, 2) := by decide +kernel
theorem dX1_init_8 : decode cX1_init 8 = .ok (.putfield 11, 3) := by decide +kernel
theorem dX1_init_11 : decode cX1_init 11 = .ok (.aload_n 0, 1) := by decide +kernel
theorem dX1_init_12 : decode cX1_init 12 = .ok (.bipush 24, 2) := by decide +kernel
theorem dX1_init_14 : decode cX1_init 14 = .ok (.newarray .int, 2) := by decide +kernel
theorem dX1_init_16 : decode cX1_init 16 = .ok (.putfield 15, 3) := by decide +kernel
theorem dX1_init_19 : decode cX1_init 19 = .ok (.aload_n 0, 1) := by decide +kernel
theorem dX1_init_20 : decode cX1_init 20 = .ok (.bipush 24, 2) := by decide +kernel
theorem dX1_init_22 : decode cX1_init 22 = .ok (.newarray .int, 2) := by decide +kernel
theorem dX1_init_24 : decode cX1_init 24 = .ok (.putfield 18, 3) := by decide +kernel
theorem dX1_init_27 : decode cX1_init 27 = .ok (.aload_n 0, 1) := by decide +kernel
theorem dX1_init_28 : decode cX1_init 28 = .ok (.iconst 0, 1) := by decide +kernel
theorem dX1_init_29 : decode cX1_init 29 = .ok (.putfield 21, 3) := by decide +kernel
theorem dX1_init_32 : decode cX1_init 32 = .ok (.aload_n 0, 1) := by decide +kernel
theorem dX1_init_33 : decode cX1_init 33 = .ok (.iconst 0, 1) := by decide +kernel
theorem dX1_init_34 : decode cX1_init 34 = .ok (.putfield 25, 3) := by decide +kernel
theorem dX1_init_37 : decode cX1_init 37 = .ok (.aload_n 0, 1) := by decide +kernel
theorem dX1_init_38 : decode cX1_init 38 = .ok (.iconst 0, 1) := by decide +kernel
theorem dX1_init_39 : decode cX1_init 39 = .ok (.putfield 28, 3) := by decide +kernel
theorem dX1_init_42 : decode cX1_init 42 = .ok (.return_, 1) := by decide +kernel
theorem mi_X1 : MyI yX1_init cX1_init 1 := ⟨⟨allT1 183 (by decide +kernel) rfl, allT1 7 (by decide +kernel) rfl, allT1 184 (by decide +kernel) rfl⟩, rfl, by decide +kernel, by decide +kernel, by decide +kernel⟩
theorem oi_X1 : Cond.methodLink RX1 5 Lib.objectInit ∈ ALL := allT1 185 (by decide +kernel) rfl
theorem fi_X1_11 : Fl RX1 11 1 0 := ⟨by decide, by decide, allT1 186 (by decide +kernel) rfl⟩
theorem fi_X1_15 : Fl RX1 15 1 1 := ⟨by decide, by decide, allT1 187 (by decide +kernel) rfl⟩
theorem fi_X1_18 : Fl RX1 18 1 2 := ⟨by decide, by decide, allT1 188 (by decide +kernel) rfl⟩
theorem fi_X1_21 : Fl RX1 21 1 3 := ⟨by decide, by decide, allT1 189 (by decide +kernel) rfl⟩
theorem fi_X1_25 : Fl RX1 25 1 4 := ⟨by decide, by decide, allT1 194 (by decide +kernel) rfl⟩
theorem fi_X1_28 : Fl RX1 28 1 5 := ⟨by decide, by decide, allT1 198 (by decide +kernel) rfl⟩
def iX1 (θ : Th) (V : Nat → Nat → Value) (o : Nat) : Nat → Nat → Value := (upC (upC (upC (upC (upR (upC (upR (upC (upR V (o + 1) (fun _ => .int 0)) o 0 (.ref (be θ + (o + 1)))) (o + 2) (fun _ => .int 0)) o 1 (.ref (be θ + (o + 2)))) (o + 3) (fun _ => .int 0)) o 2 (.ref (be θ + (o + 3)))) o 3 (.int (0 : Int32))) o 4 (.int (0 : Int32))) o 5 (.int (0 : Int32)))
set_option maxRecDepth 20000 in
theorem c_X1_init {θ : Th} {l : Launch} {V : Nat → Nat → Value} {o : Nat} (h0 : kd o = 2) (k1 : kd (o + 1) = 13) (n1 : ln (o + 1) = 4) (k2 : kd (o + 2) = 13) (n2 : ln (o + 2) = 24) (k3 : kd (o + 3) = 13) (n3 : ln (o + 3) = 24) : CnV θ l yX1_init cX1_init 1 1 3 52 [.ref (be θ + o)] V (o + 1) (iX1 θ V o) (o + 4) := by
  refine CnV.of (by decide) rfl (Nat.le_of_ble_eq_true rfl) fun p e s m below meth c X N hin hr hlk => ?_
  refine v_aload_n X dX1_init_0 rfl 0 rfl ?_
  refine v_objInit X oi_X1 oiI oiC ⟨by decide, by decide⟩ dX1_init_1 ?_
  refine v_aload_n X dX1_init_4 rfl 0 rfl ?_
  refine v_iconst X dX1_init_5 (v := (4 : Int32)) (by decide) ?_
  refine v_newa (atype := .int) (k := 13) (N := 4) (dv := .int 0) X k1 (by decide) n1 acI (cl13 X.2.1) rfl (by decide) (by decide) (by decide) (by decide) (by decide) dX1_init_6 ?_
  refine v_put X fi_X1_11 dX1_init_8 h0 (by omega) (Or.inr ⟨rfl, hin, rfl⟩) rfl rfl ?_
  refine v_aload_n X dX1_init_11 rfl 0 rfl ?_
  refine v_bipush X dX1_init_12 (v := (24 : Int32)) (by decide) ?_
  refine v_newa (atype := .int) (k := 13) (N := 24) (dv := .int 0) X k2 (by decide) n2 acI (cl13 X.2.1) rfl (by decide) (by decide) (by decide) (by decide) (by decide) dX1_init_14 ?_
  refine v_put X fi_X1_15 dX1_init_16 h0 (by omega) (Or.inr ⟨rfl, hin, rfl⟩) rfl rfl ?_
  refine v_aload_n X dX1_init_19 rfl 0 rfl ?_
  refine v_bipush X dX1_init_20 (v := (24 : Int32)) (by decide) ?_
  refine v_newa (atype := .int) (k := 13) (N := 24) (dv := .int 0) X k3 (by decide) n3 acI (cl13 X.2.1) rfl (by decide) (by decide) (by decide) (by decide) (by decide) dX1_init_22 ?_
  refine v_put X fi_X1_18 dX1_init_24 h0 (by omega) (Or.inr ⟨rfl, hin, rfl⟩) rfl rfl ?_
  refine v_aload_n X dX1_init_27 rfl 0 rfl ?_
  refine v_iconst X dX1_init_28 (v := (0 : Int32)) (by decide) ?_
  refine v_put X fi_X1_21 dX1_init_29 h0 (by omega) (Or.inl rfl) rfl rfl ?_
  refine v_aload_n X dX1_init_32 rfl 0 rfl ?_
  refine v_iconst X dX1_init_33 (v := (0 : Int32)) (by decide) ?_
  refine v_put X fi_X1_25 dX1_init_34 h0 (by omega) (Or.inl rfl) rfl rfl ?_
  refine v_aload_n X dX1_init_37 rfl 0 rfl ?_
  refine v_iconst X dX1_init_38 (v := (0 : Int32)) (by decide) ?_
  refine v_put X fi_X1_28 dX1_init_39 h0 (by omega) (Or.inl rfl) rfl rfl ?_
  exact v_vret X N hr hlk dX1_init_42 rfl
theorem dX0_init_0 : decode cX0_init 0 = .ok (.aload_n 0, 1) := by decide +kernel
theorem dX0_init_1 : decode cX0_init 1 = .ok (.invokespecial 3, 3) := by decide +kernel
theorem dX0_init_4 : decode cX0_init 4 = .ok (.aload_n 0, 1) := by decide +kernel
theorem dX0_init_5 : decode cX0_init 5 = .ok (.bipush 8, 2) := by decide +kernel
theorem dX0_init_7 : decode cX0_init 7 = .ok (.newarray .int, 2) := by decide +kernel
theorem dX0_init_9 : decode cX0_init 9 = .ok (.putfield 9, 3) := by decide +kernel
theorem dX0_init_12 : decode cX0_init 12 = .ok (.aload_n 0, 1) := by decide +kernel
theorem dX0_init_13 : decode cX0_init 13 = .ok (.bipush 8, 2) := by decide +kernel
theorem dX0_init_15 : decode cX0_init 15 = .ok (.newarray .int, 2) := by decide +kernel
theorem dX0_init_17 : decode cX0_init 17 = .ok (.putfield 15, 3) := by decide +kernel
theorem dX0_init_20 : decode cX0_init 20 = .ok (.aload_n 0, 1) := by decide +kernel
theorem dX0_init_21 : decode cX0_init 21 = .ok (.bipush 8, 2) := by decide +kernel
theorem dX0_init_23 : decode cX0_init 23 = .ok (.newarray .int, 2) := by decide +kernel
theorem dX0_init_25 : decode cX0_init 25 = .ok (.putfield 18, 3) := by decide +kernel
theorem dX0_init_28 : decode cX0_init 28 = .ok (.aload_n 0, 1) := by decide +kernel
theorem dX0_init_29 : decode cX0_init 29 = .ok (.iconst 4, 1) := by decide +kernel
theorem dX0_init_30 : decode cX0_init 30 = .ok (.newarray .int, 2) := by decide +kernel
theorem dX0_init_32 : decode cX0_init 32 = .ok (.putfield 21, 3) := by decide +kernel
theorem dX0_init_35 : decode cX0_init 35 = .ok (.aload_n 0, 1) := by decide +kernel
theorem dX0_init_36 : decode cX0_init 36 = .ok (.iconst 0, 1) := by decide +kernel
theorem dX0_init_37 : decode cX0_init 37 = .ok (.putfield 24, 3) := by decide +kernel
theorem dX0_init_40 : decode cX0_init 40 = .ok (.aload_n 0, 1) := by decide +kernel
theorem dX0_init_41 : decode cX0_init 41 = .ok (.iconst 1, 1) := by decide +kernel
theorem dX0_init_42 : decode cX0_init 42 = .ok (.putfield 28, 3) := by decide +kernel
theorem dX0_init_45 : decode cX0_init 45 = .ok (.aload_n 0, 1) := by decide +kernel
theorem dX0_init_46 : decode cX0_init 46 = .ok (.iconst 0, 1) := by decide +kernel
theorem dX0_init_47 : decode cX0_init 47 = .ok (.putfield 31, 3) := by decide +kernel
theorem dX0_init_50 : decode cX0_init 50 = .ok (.aload_n 0, 1) := by decide +kernel
theorem dX0_init_51 : decode cX0_init 51 = .ok (.iconst 0, 1) := by decide +kernel
theorem dX0_init_52 : decode cX0_init 52 = .ok (.putfield 34, 3) := by decide +kernel
theorem dX0_init_55 : decode cX0_init 55 = .ok (.return_, 1) := by decide +kernel
theorem mi_X0 : MyI yX0_init cX0_init 1 := ⟨⟨allT2 41 (by decide +kernel) rfl, allT1 10 (by decide +kernel) rfl, allT2 42 (by decide +kernel) rfl⟩, rfl, by decide +kernel, by decide +kernel, by decide +kernel⟩
theorem oi_X0 : Cond.methodLink RX0 3 Lib.objectInit ∈ ALL := allT2 43 (by decide +kernel) rfl
theorem fi_X0_9 : Fl RX0 9 0 0 := ⟨by decide, by decide, allT2 44 (by decide +kernel) rfl⟩
theorem fi_X0_15 : Fl RX0 15 0 1 := ⟨by decide, by decide, allT2 45 (by decide +kernel) rfl⟩
theorem fi_X0_18 : Fl RX0 18 0 2 := ⟨by decide, by decide, allT2 46 (by decide +kernel) rfl⟩
theorem fi_X0_21 : Fl RX0 21 0 3 := ⟨by decide, by decide, allT2 47 (by decide +kernel) rfl⟩
theorem fi_X0_24 : Fl RX0 24 0 4 := ⟨by decide, by decide, allT2 48 (by decide +kernel) rfl⟩
theorem fi_X0_28 : Fl RX0 28 0 5 := ⟨by decide, by decide, allT2 50 (by decide +kernel) rfl⟩
theorem fi_X0_31 : Fl RX0 31 0 6 := ⟨by decide, by decide, allT2 52 (by decide +kernel) rfl⟩
theorem fi_X0_34 : Fl RX0 34 0 7 := ⟨by decide, by decide, allT2 53 (by decide +kernel) rfl⟩
def iX0 (θ : Th) (V : Nat → Nat → Value) (o : Nat) : Nat → Nat → Value := (upC (upC (upC (upC (upC (upR (upC (upR (upC (upR (upC (upR V (o + 1) (fun _ => .int 0)) o 0 (.ref (be θ + (o + 1)))) (o + 2) (fun _ => .int 0)) o 1 (.ref (be θ + (o + 2)))) (o + 3) (fun _ => .int 0)) o 2 (.ref (be θ + (o + 3)))) (o + 4) (fun _ => .int 0)) o 3 (.ref (be θ + (o + 4)))) o 4 (.int (0 : Int32))) o 5 (.int (1 : Int32))) o 6 (.int (0 : Int32))) o 7 (.int (0 : Int32)))
set_option maxRecDepth 20000 in
theorem c_X0_init {θ : Th} {l : Launch} {V : Nat → Nat → Value} {o : Nat} (h0 : kd o = 1) (k1 : kd (o + 1) = 13) (n1 : ln (o + 1) = 8) (k2 : kd (o + 2) = 13) (n2 : ln (o + 2) = 8) (k3 : kd (o + 3) = 13) (n3 : ln (o + 3) = 8) (k4 : kd (o + 4) = 13) (n4 : ln (o + 4) = 4) : CnV θ l yX0_init cX0_init 1 1 4 28 [.ref (be θ + o)] V (o + 1) (iX0 θ V o) (o + 5) := by
  refine CnV.of (by decide) rfl (Nat.le_of_ble_eq_true rfl) fun p e s m below meth c X N hin hr hlk => ?_
  refine v_aload_n X dX0_init_0 rfl 0 rfl ?_
  refine v_objInit X oi_X0 oiI oiC ⟨by decide, by decide⟩ dX0_init_1 ?_
  refine v_aload_n X dX0_init_4 rfl 0 rfl ?_
  refine v_bipush X dX0_init_5 (v := (8 : Int32)) (by decide) ?_
  refine v_newa (atype := .int) (k := 13) (N := 8) (dv := .int 0) X k1 (by decide) n1 acI (cl13 X.2.1) rfl (by decide) (by decide) (by decide) (by decide) (by decide) dX0_init_7 ?_
  refine v_put X fi_X0_9 dX0_init_9 h0 (by omega) (Or.inr ⟨rfl, hin, rfl⟩) rfl rfl ?_
  refine v_aload_n X dX0_init_12 rfl 0 rfl ?_
  refine v_bipush X dX0_init_13 (v := (8 : Int32)) (by decide) ?_
  refine v_newa (atype := .int) (k := 13) (N := 8) (dv := .int 0) X k2 (by decide) n2 acI (cl13 X.2.1) rfl (by decide) (by decide) (by decide) (by decide) (by decide) dX0_init_15 ?_
  refine v_put X fi_X0_15 dX0_init_17 h0 (by omega) (Or.inr ⟨rfl, hin, rfl⟩) rfl rfl ?_
  refine v_aload_n X dX0_init_20 rfl 0 rfl ?_
  refine v_bipush X dX0_init_21 (v := (8 : Int32)) (by decide) ?_
  refine v_newa (atype := .int) (k := 13) (N := 8) (dv := .int 0) X k3 (by decide) n3 acI (cl13 X.2.1) rfl (by decide) (by decide) (by decide) (by decide) (by decide) dX0_init_23 ?_
  refine v_put X fi_X0_18 dX0_init_25 h0 (by omega) (Or.inr ⟨rfl, hin, rfl⟩) rfl rfl ?_
  refine v_aload_n X dX0_init_28 rfl 0 rfl ?_
  refine v_iconst X dX0_init_29 (v := (4 : Int32)) (by decide) ?_
  refine v_newa (atype := .int) (k := 13) (N := 4) (dv := .int 0) X k4 (by decide) n4 acI (cl13 X.2.1) rfl (by decide) (by decide) (by decide) (by decide) (by decide) dX0_init_30 ?_
  refine v_put X fi_X0_21 dX0_init_32 h0 (by omega) (Or.inr ⟨rfl, hin, rfl⟩) rfl rfl ?_
  refine v_aload_n X dX0_init_35 rfl 0 rfl ?_
  refine v_iconst X dX0_init_36 (v := (0 : Int32)) (by decide) ?_
  refine v_put X fi_X0_24 dX0_init_37 h0 (by omega) (Or.inl rfl) rfl rfl ?_
  refine v_aload_n X dX0_init_40 rfl 0 rfl ?_
  refine v_iconst X dX0_init_41 (v := (1 : Int32)) (by decide) ?_
  refine v_put X fi_X0_28 dX0_init_42 h0 (by omega) (Or.inl rfl) rfl rfl ?_
  refine v_aload_n X dX0_init_45 rfl 0 rfl ?_
  refine v_iconst X dX0_init_46 (v := (0 : Int32)) (by decide) ?_
  refine v_put X fi_X0_31 dX0_init_47 h0 (by omega) (Or.inl rfl) rfl rfl ?_
  refine v_aload_n X dX0_init_50 rfl 0 rfl ?_
  refine v_iconst X dX0_init_51 (v := (0 : Int32)) (by decide) ?_
  refine v_put X fi_X0_34 dX0_init_52 h0 (by omega) (Or.inl rfl) rfl rfl ?_
  exact v_vret X N hr hlk dX0_init_55 rfl
theorem dX7_init_0 : decode cX7_init 0 = .ok (.aload_n 0, 1) := by decide +kernel
theorem dX7_init_1 : decode cX7_init 1 = .ok (.invokespecial 3, 3) := by decide +kernel
theorem dX7_init_4 : decode cX7_init 4 = .ok (.aload_n 0, 1) := by decide +kernel
theorem dX7_init_5 : decode cX7_init 5 = .ok (.bipush 8, 2) := by decide +kernel
theorem dX7_init_7 : decode cX7_init 7 = .ok (.newarray .int, 2) := by decide +kernel
theorem dX7_init_9 : decode cX7_init 9 = .ok (.putfield 9, 3) := by decide +kernel
theorem dX7_init_12 : decode cX7_init 12 = .ok (.aload_n 0, 1) := by decide +kernel
theorem dX7_init_13 : decode cX7_init 13 = .ok (.bipush 8, 2) := by decide +kernel
theorem dX7_init_15 : decode cX7_init 15 = .ok (.newarray .int, 2) := by decide +kernel
theorem dX7_init_17 : decode cX7_init 17 = .ok (.putfield 15, 3) := by decide +kernel
theorem dX7_init_20 : decode cX7_init 20 = .ok (.aload_n 0, 1) := by decide +kernel
theorem dX7_init_21 : decode cX7_init 21 = .ok (.bipush 8, 2) := by decide +kernel
theorem dX7_init_23 : decode cX7_init 23 = .ok (.newarray .int, 2) := by decide +kernel
theorem dX7_init_25 : decode cX7_init 25 = .ok (.putfield 18, 3) := by decide +kernel
theorem dX7_init_28 : decode cX7_init 28 = .ok (.aload_n 0, 1) := by decide +kernel
theorem dX7_init_29 : decode cX7_init 29 = .ok (.bipush 8, 2) := by decide +kernel
theorem dX7_init_31 : decode cX7_init 31 = .ok (.newarray .int, 2) := by decide +kernel
theorem dX7_init_33 : decode cX7_init 33 = .ok (.putfield 21, 3) := by decide +kernel
theorem dX7_init_36 : decode cX7_init 36 = .ok (.aload_n 0, 1) := by decide +kernel
theorem dX7_init_37 : decode cX7_init 37 = .ok (.bipush 6, 2) := by decide +kernel
theorem dX7_init_39 : decode cX7_init 39 = .ok (.newarray .int, 2) := by decide +kernel
theorem dX7_init_41 : decode cX7_init 41 = .ok (.putfield 24, 3) := by decide +kernel
theorem dX7_init_44 : decode cX7_init 44 = .ok (.aload_n 0, 1) := by decide +kernel
theorem dX7_init_45 : decode cX7_init 45 = .ok (.bipush 6, 2) := by decide +kernel
theorem dX7_init_47 : decode cX7_init 47 = .ok (.newarray .int, 2) := by decide +kernel
theorem dX7_init_49 : decode cX7_init 49 = .ok (.putfield 27, 3) := by decide +kernel
theorem dX7_init_52 : decode cX7_init 52 = .ok (.aload_n 0, 1) := by decide +kernel
theorem dX7_init_53 : decode cX7_init 53 = .ok (.bipush 6, 2) := by decide +kernel
theorem dX7_init_55 : decode cX7_init 55 = .ok (.newarray .int, 2) := by decide +kernel
theorem dX7_init_57 : decode cX7_init 57 = .ok (.putfield 30, 3) := by decide +kernel
theorem dX7_init_60 : decode cX7_init 60 = .ok (.aload_n 0, 1) := by decide +kernel
theorem dX7_init_61 : decode cX7_init 61 = .ok (.bipush 96, 2) := by decide +kernel
theorem dX7_init_63 : decode cX7_init 63 = .ok (.newarray .int, 2) := by decide +kernel
theorem dX7_init_65 : decode cX7_init 65 = .ok (.putfield 33, 3) := by decide +kernel
theorem dX7_init_68 : decode cX7_init 68 = .ok (.aload_n 0, 1) := by decide +kernel
theorem dX7_init_69 : decode cX7_init 69 = .ok (.sipush 180, 3) := by decide +kernel
theorem dX7_init_72 : decode cX7_init 72 = .ok (.newarray .int, 2) := by decide +kernel
theorem dX7_init_74 : decode cX7_init 74 = .ok (.putfield 36, 3) := by decide +kernel
theorem dX7_init_77 : decode cX7_init 77 = .ok (.aload_n 0, 1) := by decide +kernel
theorem dX7_init_78 : decode cX7_init 78 = .ok (.iconst 0, 1) := by decide +kernel
theorem dX7_init_79 : decode cX7_init 79 = .ok (.putfield 39, 3) := by decide +kernel
theorem dX7_init_82 : decode cX7_init 82 = .ok (.aload_n 0, 1) := by decide +kernel
theorem dX7_init_83 : decode cX7_init 83 = .ok (.iconst 0, 1) := by decide +kernel
theorem dX7_init_84 : decode cX7_init 84 = .ok (.putfield 43, 3) := by decide +kernel
theorem dX7_init_87 : decode cX7_init 87 = .ok (.aload_n 0, 1) := by decide +kernel
theorem dX7_init_88 : decode cX7_init 88 = .ok (.iconst 0, 1) := by decide +kernel
theorem dX7_init_89 : decode cX7_init 89 = .ok (.putfield 46, 3) := by decide +kernel
theorem dX7_init_92 : decode cX7_init 92 = .ok (.aload_n 0, 1) := by decide +kernel
theorem dX7_init_93 : decode cX7_init 93 = .ok (.iconst 0, 1) := by decide +kernel
theorem dX7_init_94 : decode cX7_init 94 = .ok (.putfield 49, 3) := by decide +kernel
theorem dX7_init_97 : decode cX7_init 97 = .ok (.aload_n 0, 1) := by decide +kernel
theorem dX7_init_98 : decode cX7_init 98 = .ok (.iconst 0, 1) := by decide +kernel
theorem dX7_init_99 : decode cX7_init 99 = .ok (.putfield 52, 3) := by decide +kernel
theorem dX7_init_102 : decode cX7_init 102 = .ok (.aload_n 0, 1) := by decide +kernel
theorem dX7_init_103 : decode cX7_init 103 = .ok (.iconst 0, 1) := by decide +kernel
theorem dX7_init_104 : decode cX7_init 104 = .ok (.putfield 55, 3) := by decide +kernel
theorem dX7_init_107 : decode cX7_init 107 = .ok (.return_, 1) := by decide +kernel
theorem mi_X7 : MyI yX7_init cX7_init 1 := ⟨⟨allT1 67 (by decide +kernel) rfl, allT1 3 (by decide +kernel) rfl, allT1 68 (by decide +kernel) rfl⟩, rfl, by decide +kernel, by decide +kernel, by decide +kernel⟩
theorem oi_X7 : Cond.methodLink RX7 3 Lib.objectInit ∈ ALL := allT1 69 (by decide +kernel) rfl
theorem fi_X7_9 : Fl RX7 9 7 0 := ⟨by decide, by decide, allT1 70 (by decide +kernel) rfl⟩
theorem fi_X7_15 : Fl RX7 15 7 1 := ⟨by decide, by decide, allT1 74 (by decide +kernel) rfl⟩
theorem fi_X7_18 : Fl RX7 18 7 2 := ⟨by decide, by decide, allT1 78 (by decide +kernel) rfl⟩
theorem fi_X7_21 : Fl RX7 21 7 3 := ⟨by decide, by decide, allT1 81 (by decide +kernel) rfl⟩
theorem fi_X7_24 : Fl RX7 24 7 4 := ⟨by decide, by decide, allT1 86 (by decide +kernel) rfl⟩
theorem fi_X7_27 : Fl RX7 27 7 5 := ⟨by decide, by decide, allT1 89 (by decide +kernel) rfl⟩
theorem fi_X7_30 : Fl RX7 30 7 6 := ⟨by decide, by decide, allT1 92 (by decide +kernel) rfl⟩
theorem fi_X7_33 : Fl RX7 33 7 7 := ⟨by decide, by decide, allT1 96 (by decide +kernel) rfl⟩
theorem fi_X7_36 : Fl RX7 36 7 8 := ⟨by decide, by decide, allT1 98 (by decide +kernel) rfl⟩
theorem fi_X7_39 : Fl RX7 39 7 9 := ⟨by decide, by decide, allT1 100 (by decide +kernel) rfl⟩
theorem fi_X7_43 : Fl RX7 43 7 10 := ⟨by decide, by decide, allT1 103 (by decide +kernel) rfl⟩
theorem fi_X7_46 : Fl RX7 46 7 11 := ⟨by decide, by decide, allT1 105 (by decide +kernel) rfl⟩
theorem fi_X7_49 : Fl RX7 49 7 12 := ⟨by decide, by decide, allT1 109 (by decide +kernel) rfl⟩
theorem fi_X7_52 : Fl RX7 52 7 13 := ⟨by decide, by decide, allT1 113 (by decide +kernel) rfl⟩
theorem fi_X7_55 : Fl RX7 55 7 14 := ⟨by decide, by decide, allT1 118 (by decide +kernel) rfl⟩
def iX7 (θ : Th) (V : Nat → Nat → Value) (o : Nat) : Nat → Nat → Value := (upC (upC (upC (upC (upC (upC (upC (upR (upC (upR (upC (upR (upC (upR (upC (upR (upC (upR (upC (upR (upC (upR (upC (upR V (o + 1) (fun _ => .int 0)) o 0 (.ref (be θ + (o + 1)))) (o + 2) (fun _ => .int 0)) o 1 (.ref (be θ + (o + 2)))) (o + 3) (fun _ => .int 0)) o 2 (.ref (be θ + (o + 3)))) (o + 4) (fun _ => .int 0)) o 3 (.ref (be θ + (o + 4)))) (o + 5) (fun _ => .int 0)) o 4 (.ref (be θ + (o + 5)))) (o + 6) (fun _ => .int 0)) o 5 (.ref (be θ + (o + 6)))) (o + 7) (fun _ => .int 0)) o 6 (.ref (be θ + (o + 7)))) (o + 8) (fun _ => .int 0)) o 7 (.ref (be θ + (o + 8)))) (o + 9) (fun _ => .int 0)) o 8 (.ref (be θ + (o + 9)))) o 9 (.int (0 : Int32))) o 10 (.int (0 : Int32))) o 11 (.int (0 : Int32))) o 12 (.int (0 : Int32))) o 13 (.int (0 : Int32))) o 14 (.int (0 : Int32)))
set_option maxRecDepth 20000 in
theorem c_X7_init {θ : Th} {l : Launch} {V : Nat → Nat → Value} {o : Nat} (h0 : kd o = 8) (k1 : kd (o + 1) = 13) (n1 : ln (o + 1) = 8) (k2 : kd (o + 2) = 13) (n2 : ln (o + 2) = 8) (k3 : kd (o + 3) = 13) (n3 : ln (o + 3) = 8) (k4 : kd (o + 4) = 13) (n4 : ln (o + 4) = 8) (k5 : kd (o + 5) = 13) (n5 : ln (o + 5) = 6) (k6 : kd (o + 6) = 13) (n6 : ln (o + 6) = 6) (k7 : kd (o + 7) = 13) (n7 : ln (o + 7) = 6) (k8 : kd (o + 8) = 13) (n8 : ln (o + 8) = 96) (k9 : kd (o + 9) = 13) (n9 : ln (o + 9) = 180) : CnV θ l yX7_init cX7_init 1 1 9 326 [.ref (be θ + o)] V (o + 1) (iX7 θ V o) (o + 10) := by
  refine CnV.of (by decide) rfl (Nat.le_of_ble_eq_true rfl) fun p e s m below meth c X N hin hr hlk => ?_
  refine v_aload_n X dX7_init_0 rfl 0 rfl ?_
  refine v_objInit X oi_X7 oiI oiC ⟨by decide, by decide⟩ dX7_init_1 ?_
  refine v_aload_n X dX7_init_4 rfl 0 rfl ?_
  refine v_bipush X dX7_init_5 (v := (8 : Int32)) (by decide) ?_
  refine v_newa (atype := .int) (k := 13) (N := 8) (dv := .int 0) X k1 (by decide) n1 acI (cl13 X.2.1) rfl (by decide) (by decide) (by decide) (by decide) (by decide) dX7_init_7 ?_
  refine v_put X fi_X7_9 dX7_init_9 h0 (by omega) (Or.inr ⟨rfl, hin, rfl⟩) rfl rfl ?_
  refine v_aload_n X dX7_init_12 rfl 0 rfl ?_
  refine v_bipush X dX7_init_13 (v := (8 : Int32)) (by decide) ?_
  refine v_newa (atype := .int) (k := 13) (N := 8) (dv := .int 0) X k2 (by decide) n2 acI (cl13 X.2.1) rfl (by decide) (by decide) (by decide) (by decide) (by decide) dX7_init_15 ?_
  refine v_put X fi_X7_15 dX7_init_17 h0 (by omega) (Or.inr ⟨rfl, hin, rfl⟩) rfl rfl ?_
  refine v_aload_n X dX7_init_20 rfl 0 rfl ?_
  refine v_bipush X dX7_init_21 (v := (8 : Int32)) (by decide) ?_
  refine v_newa (atype := .int) (k := 13) (N := 8) (dv := .int 0) X k3 (by decide) n3 acI (cl13 X.2.1) rfl (by decide) (by decide) (by decide) (by decide) (by decide) dX7_init_23 ?_
  refine v_put X fi_X7_18 dX7_init_25 h0 (by omega) (Or.inr ⟨rfl, hin, rfl⟩) rfl rfl ?_
  refine v_aload_n X dX7_init_28 rfl 0 rfl ?_
  refine v_bipush X dX7_init_29 (v := (8 : Int32)) (by decide) ?_
  refine v_newa (atype := .int) (k := 13) (N := 8) (dv := .int 0) X k4 (by decide) n4 acI (cl13 X.2.1) rfl (by decide) (by decide) (by decide) (by decide) (by decide) dX7_init_31 ?_
  refine v_put X fi_X7_21 dX7_init_33 h0 (by omega) (Or.inr ⟨rfl, hin, rfl⟩) rfl rfl ?_
  refine v_aload_n X dX7_init_36 rfl 0 rfl ?_
  refine v_bipush X dX7_init_37 (v := (6 : Int32)) (by decide) ?_
  refine v_newa (atype := .int) (k := 13) (N := 6) (dv := .int 0) X k5 (by decide) n5 acI (cl13 X.2.1) rfl (by decide) (by decide) (by decide) (by decide) (by decide) dX7_init_39 ?_
  refine v_put X fi_X7_24 dX7_init_41 h0 (by omega) (Or.inr ⟨rfl, hin, rfl⟩) rfl rfl ?_
  refine v_aload_n X dX7_init_44 rfl 0 rfl ?_
  refine v_bipush X dX7_init_45 (v := (6 : Int32)) (by decide) ?_
  refine v_newa (atype := .int) (k := 13) (N := 6) (dv := .int 0) X k6 (by decide) n6 acI (cl13 X.2.1) rfl (by decide) (by decide) (by decide) (by decide) (by decide) dX7_init_47 ?_
  refine v_put X fi_X7_27 dX7_init_49 h0 (by omega) (Or.inr ⟨rfl, hin, rfl⟩) rfl rfl ?_
  refine v_aload_n X dX7_init_52 rfl 0 rfl ?_
  refine v_bipush X dX7_init_53 (v := (6 : Int32)) (by decide) ?_
  refine v_newa (atype := .int) (k := 13) (N := 6) (dv := .int 0) X k7 (by decide) n7 acI (cl13 X.2.1) rfl (by decide) (by decide) (by decide) (by decide) (by decide) dX7_init_55 ?_
  refine v_put X fi_X7_30 dX7_init_57 h0 (by omega) (Or.inr ⟨rfl, hin, rfl⟩) rfl rfl ?_
  refine v_aload_n X dX7_init_60 rfl 0 rfl ?_
  refine v_bipush X dX7_init_61 (v := (96 : Int32)) (by decide) ?_
  refine v_newa (atype := .int) (k := 13) (N := 96) (dv := .int 0) X k8 (by decide) n8 acI (cl13 X.2.1) rfl (by decide) (by decide) (by decide) (by decide) (by decide) dX7_init_63 ?_
  refine v_put X fi_X7_33 dX7_init_65 h0 (by omega) (Or.inr ⟨rfl, hin, rfl⟩) rfl rfl ?_
  refine v_aload_n X dX7_init_68 rfl 0 rfl ?_
  refine v_sipush X dX7_init_69 (v := (180 : Int32)) (by decide) ?_
  refine v_newa (atype := .int) (k := 13) (N := 180) (dv := .int 0) X k9 (by decide) n9 acI (cl13 X.2.1) rfl (by decide) (by decide) (by decide) (by decide) (by decide) dX7_init_72 ?_
  refine v_put X fi_X7_36 dX7_init_74 h0 (by omega) (Or.inr ⟨rfl, hin, rfl⟩) rfl rfl ?_
  refine v_aload_n X dX7_init_77 rfl 0 rfl ?_
  refine v_iconst X dX7_init_78 (v := (0 : Int32)) (by decide) ?_
  refine v_put X fi_X7_39 dX7_init_79 h0 (by omega) (Or.inl rfl) rfl rfl ?_
  refine v_aload_n X dX7_init_82 rfl 0 rfl ?_
  refine v_iconst X dX7_init_83 (v := (0 : Int32)) (by decide) ?_
  refine v_put X fi_X7_43 dX7_init_84 h0 (by omega) (Or.inl rfl) rfl rfl ?_
  refine v_aload_n X dX7_init_87 rfl 0 rfl ?_
  refine v_iconst X dX7_init_88 (v := (0 : Int32)) (by decide) ?_
  refine v_put X fi_X7_46 dX7_init_89 h0 (by omega) (Or.inl rfl) rfl rfl ?_
  refine v_aload_n X dX7_init_92 rfl 0 rfl ?_
  refine v_iconst X dX7_init_93 (v := (0 : Int32)) (by decide) ?_
  refine v_put X fi_X7_49 dX7_init_94 h0 (by omega) (Or.inl rfl) rfl rfl ?_
  refine v_aload_n X dX7_init_97 rfl 0 rfl ?_
  refine v_iconst X dX7_init_98 (v := (0 : Int32)) (by decide) ?_
  refine v_put X fi_X7_52 dX7_init_99 h0 (by omega) (Or.inl rfl) rfl rfl ?_
  refine v_aload_n X dX7_init_102 rfl 0 rfl ?_
  refine v_iconst X dX7_init_103 (v := (0 : Int32)) (by decide) ?_
  refine v_put X fi_X7_55 dX7_init_104 h0 (by omega) (Or.inl rfl) rfl rfl ?_
  exact v_vret X N hr hlk dX7_init_107 rfl
