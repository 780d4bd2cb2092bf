/-! constructors that make others (laid by wip/tools/ini.py) -/
theorem dX3_init_0 : decode cX3_init 0 = .ok (.aload_n 0, 1) := by decide +kernel
theorem dX3_init_1 : decode cX3_init 1 = .ok (.invokespecial 3, 3) := by decide +kernel
theorem dX3_init_4 : decode cX3_init 4 = .ok (.aload_n 0, 1) := by decide +kernel
theorem dX3_init_5 : decode cX3_init 5 = .ok (.new 9, 3) := by decide +kernel
theorem dX3_init_8 : decode cX3_init 8 = .ok (.dup, 1) := by decide +kernel
theorem dX3_init_9 : decode cX3_init 9 = .ok (.invokespecial 11, 3) := by decide +kernel
theorem dX3_init_12 : decode cX3_init 12 = .ok (.putfield 12, 3) := by decide +kernel
theorem dX3_init_15 : decode cX3_init 15 = .ok (.aload_n 0, 1) := by decide +kernel
theorem dX3_init_16 : decode cX3_init 16 = .ok (.bipush 10, 2) := by decide +kernel
theorem dX3_init_18 : decode cX3_init 18 = .ok (.newarray .int, 2) := by decide +kernel
theorem dX3_init_20 : decode cX3_init 20 = .ok (.putfield 18, 3) := by decide +kernel
theorem dX3_init_23 : decode cX3_init 23 = .ok (.aload_n 0, 1) := by decide +kernel
theorem dX3_init_24 : decode cX3_init 24 = .ok (.bipush 10, 2) := by decide +kernel
theorem dX3_init_26 : decode cX3_init 26 = .ok (.newarray .int, 2) := by decide +kernel
theorem dX3_init_28 : decode cX3_init 28 = .ok (.putfield 22, 3) := by decide +kernel
theorem dX3_init_31 : decode cX3_init 31 = .ok (.aload_n 0, 1) := by decide +kernel
theorem dX3_init_32 : decode cX3_init 32 = .ok (.bipush 10, 2) := by decide +kernel
theorem dX3_init_34 : decode cX3_init 34 = .ok (.newarray .boolean, 2) := by decide +kernel
theorem dX3_init_36 : decode cX3_init 36 = .ok (.putfield 25, 3) := by decide +kernel
theorem dX3_init_39 : decode cX3_init 39 = .ok (.aload_n 0, 1) := by decide +kernel
theorem dX3_init_40 : decode cX3_init 40 = .ok (.sipush 610, 3) := by decide +kernel
theorem dX3_init_43 : decode cX3_init 43 = .ok (.newarray .int, 2) := by decide +kernel
theorem dX3_init_45 : decode cX3_init 45 = .ok (.putfield 29, 3) := by decide +kernel
theorem dX3_init_48 : decode cX3_init 48 = .ok (.aload_n 0, 1) := by decide +kernel
theorem dX3_init_49 : decode cX3_init 49 = .ok (.iconst 0, 1) := by decide +kernel
theorem dX3_init_50 : decode cX3_init 50 = .ok (.putfield 32, 3) := by decide +kernel
theorem dX3_init_53 : decode cX3_init 53 = .ok (.return_, 1) := by decide +kernel
theorem mi_X3 : MyI yX3_init cX3_init 1 := ⟨⟨allT2 12 (by decide +kernel) rfl, allT1 9 (by decide +kernel) rfl, allT2 13 (by decide +kernel) rfl⟩, rfl, by decide +kernel, by decide +kernel, by decide +kernel⟩
theorem oi_X3 : Cond.methodLink RX3 3 Lib.objectInit ∈ ALL := allT2 14 (by decide +kernel) rfl
theorem ck_X3_9 : Cond.classLink RX3 9 (clC 7) ∈ ALL := allT2 15 (by decide +kernel) rfl
theorem in_7 : Cond.instantiable (clC 7) (nF 7) ∈ ALL := allT1 65 (by decide +kernel) rfl
theorem ii_7 : Cond.initialized (clC 7) ∈ ALL := allT1 3 (by decide +kernel) rfl
theorem fi_X3_12 : Fl RX3 12 3 0 := ⟨by decide, by decide, allT2 17 (by decide +kernel) rfl⟩
theorem fi_X3_18 : Fl RX3 18 3 1 := ⟨by decide, by decide, allT2 18 (by decide +kernel) rfl⟩
theorem fi_X3_22 : Fl RX3 22 3 2 := ⟨by decide, by decide, allT2 19 (by decide +kernel) rfl⟩
theorem fi_X3_25 : Fl RX3 25 3 3 := ⟨by decide, by decide, allT2 20 (by decide +kernel) rfl⟩
theorem fi_X3_29 : Fl RX3 29 3 4 := ⟨by decide, by decide, allT2 21 (by decide +kernel) rfl⟩
theorem fi_X3_32 : Fl RX3 32 3 5 := ⟨by decide, by decide, allT2 22 (by decide +kernel) rfl⟩
def iX3 (θ : Th) (V : Nat → Nat → Value) (o : Nat) : Nat → Nat → Value := (upC (upC (upR (upC (upR (upC (upR (upC (upR (upC (iX7 θ (upR V (o + 1) (fun k => defaultValue (clty 7 k))) (o + 1)) o 0 (.ref (be θ + (o + 1)))) (o + 11) (fun _ => .int 0)) o 1 (.ref (be θ + (o + 11)))) (o + 12) (fun _ => .int 0)) o 2 (.ref (be θ + (o + 12)))) (o + 13) (fun _ => .int 0)) o 3 (.ref (be θ + (o + 13)))) (o + 14) (fun _ => .int 0)) o 4 (.ref (be θ + (o + 14)))) o 5 (.int (0 : Int32)))
set_option maxRecDepth 20000 in
theorem c_X3_init {θ : Th} {l : Launch} {V : Nat → Nat → Value} {o : Nat} (h0 : kd o = 4) (k1 : kd (o + 1) = 8) (k2 : kd (o + 2) = 13) (n2 : ln (o + 2) = 8) (k3 : kd (o + 3) = 13) (n3 : ln (o + 3) = 8) (k4 : kd (o + 4) = 13) (n4 : ln (o + 4) = 8) (k5 : kd (o + 5) = 13) (n5 : ln (o + 5) = 8) (k6 : kd (o + 6) = 13) (n6 : ln (o + 6) = 6) (k7 : kd (o + 7) = 13) (n7 : ln (o + 7) = 6) (k8 : kd (o + 8) = 13) (n8 : ln (o + 8) = 6) (k9 : kd (o + 9) = 13) (n9 : ln (o + 9) = 96) (k10 : kd (o + 10) = 13) (n10 : ln (o + 10) = 180) (k11 : kd (o + 11) = 13) (n11 : ln (o + 11) = 10) (k12 : kd (o + 12) = 13) (n12 : ln (o + 12) = 10) (k13 : kd (o + 13) = 15) (n13 : ln (o + 13) = 10) (k14 : kd (o + 14) = 13) (n14 : ln (o + 14) = 610) : CnV θ l yX3_init cX3_init 1 2 14 981 [.ref (be θ + o)] V (o + 1) (iX3 θ V o) (o + 15) := by
  refine CnV.of (by decide) rfl (Nat.le_of_ble_eq_true rfl) fun p e s m below meth c X N hin hr hlk => ?_
  refine v_aload_n X dX3_init_0 rfl 0 rfl ?_
  refine v_objInit X oi_X3 oiI oiC ⟨by decide, by decide⟩ dX3_init_1 ?_
  refine v_aload_n X dX3_init_4 rfl 0 rfl ?_
  refine v_new (ci := 7) X (by decide) k1 ck_X3_9 in_7 ii_7 (by decide) (by decide) dX3_init_5 ?_
  refine v_dup X dX3_init_8 rfl ?_
  refine v_callN X N (c_X7_init (o := o + 1) k1 k2 n2 k3 n3 k4 n4 k5 n5 k6 n6 k7 n7 k8 n8 k9 n9 k10 n10) (by decide +kernel) mi_X7 (Nat.le_of_ble_eq_true rfl) ⟨by decide, by decide⟩ ⟨by decide, by decide⟩ dX3_init_9 ?_
  refine v_put X fi_X3_12 dX3_init_12 h0 (by omega) (Or.inr ⟨rfl, hin, rfl⟩) rfl rfl ?_
  refine v_aload_n X dX3_init_15 rfl 0 rfl ?_
  refine v_bipush X dX3_init_16 (v := (10 : Int32)) (by decide) ?_
  refine v_newa (atype := .int) (k := 13) (N := 10) (dv := .int 0) X k11 (by decide) n11 acI (cl13 X.2.1) rfl (by decide) (by decide) (by decide) (by decide) (by decide) dX3_init_18 ?_
  refine v_put X fi_X3_18 dX3_init_20 h0 (by omega) (Or.inr ⟨rfl, hin, rfl⟩) rfl rfl ?_
  refine v_aload_n X dX3_init_23 rfl 0 rfl ?_
  refine v_bipush X dX3_init_24 (v := (10 : Int32)) (by decide) ?_
  refine v_newa (atype := .int) (k := 13) (N := 10) (dv := .int 0) X k12 (by decide) n12 acI (cl13 X.2.1) rfl (by decide) (by decide) (by decide) (by decide) (by decide) dX3_init_26 ?_
  refine v_put X fi_X3_22 dX3_init_28 h0 (by omega) (Or.inr ⟨rfl, hin, rfl⟩) rfl rfl ?_
  refine v_aload_n X dX3_init_31 rfl 0 rfl ?_
  refine v_bipush X dX3_init_32 (v := (10 : Int32)) (by decide) ?_
  refine v_newa (atype := .boolean) (k := 15) (N := 10) (dv := .int 0) X k13 (by decide) n13 acZ (cl15 X.2.1) rfl (by decide) (by decide) (by decide) (by decide) (by decide) dX3_init_34 ?_
  refine v_put X fi_X3_25 dX3_init_36 h0 (by omega) (Or.inr ⟨rfl, hin, rfl⟩) rfl rfl ?_
  refine v_aload_n X dX3_init_39 rfl 0 rfl ?_
  refine v_sipush X dX3_init_40 (v := (610 : Int32)) (by decide) ?_
  refine v_newa (atype := .int) (k := 13) (N := 610) (dv := .int 0) X k14 (by decide) n14 acI (cl13 X.2.1) rfl (by decide) (by decide) (by decide) (by decide) (by decide) dX3_init_43 ?_
  refine v_put X fi_X3_29 dX3_init_45 h0 (by omega) (Or.inr ⟨rfl, hin, rfl⟩) rfl rfl ?_
  refine v_aload_n X dX3_init_48 rfl 0 rfl ?_
  refine v_iconst X dX3_init_49 (v := (0 : Int32)) (by decide) ?_
  refine v_put X fi_X3_32 dX3_init_50 h0 (by omega) (Or.inl rfl) rfl rfl ?_
  exact v_vret X N hr hlk dX3_init_53 rfl
theorem dX9_init_0 : decode cX9_init 0 = .ok (.aload_n 0, 1) := by decide +kernel
theorem dX9_init_1 : decode cX9_init 1 = .ok (.invokespecial 3, 3) := by decide +kernel
theorem dX9_init_4 : decode cX9_init 4 = .ok (.aload_n 0, 1) := by decide +kernel
theorem dX9_init_5 : decode cX9_init 5 = .ok (.getstatic 9, 3) := by decide +kernel
theorem dX9_init_8 : decode cX9_init 8 = .ok (.arraylength, 1) := by decide +kernel
theorem dX9_init_9 : decode cX9_init 9 = .ok (.newarray .int, 2) := by decide +kernel
theorem dX9_init_11 : decode cX9_init 11 = .ok (.putfield 15, 3) := by decide +kernel
theorem dX9_init_14 : decode cX9_init 14 = .ok (.aload_n 0, 1) := by decide +kernel
theorem dX9_init_15 : decode cX9_init 15 = .ok (.new 21, 3) := by decide +kernel
theorem dX9_init_18 : decode cX9_init 18 = .ok (.dup, 1) := by decide +kernel
theorem dX9_init_19 : decode cX9_init 19 = .ok (.invokespecial 23, 3) := by decide +kernel
theorem dX9_init_22 : decode cX9_init 22 = .ok (.putfield 24, 3) := by decide +kernel
theorem dX9_init_25 : decode cX9_init 25 = .ok (.aload_n 0, 1) := by decide +kernel
theorem dX9_init_26 : decode cX9_init 26 = .ok (.aconst_null, 1) := by decide +kernel
theorem dX9_init_27 : decode cX9_init 27 = .ok (.putfield 28, 3) := by decide +kernel
theorem dX9_init_30 : decode cX9_init 30 = .ok (.return_, 1) := by decide +kernel
theorem mi_X9 : MyI yX9_init cX9_init 1 := ⟨⟨allT1 175 (by decide +kernel) rfl, allT1 5 (by decide +kernel) rfl, allT1 176 (by decide +kernel) rfl⟩, rfl, by decide +kernel, by decide +kernel, by decide +kernel⟩
theorem oi_X9 : Cond.methodLink RX9 3 Lib.objectInit ∈ ALL := allT1 177 (by decide +kernel) rfl
theorem gs_X9_9 : Cond.fieldLink RX9 9 "NearlyBought$Law" "LETTERS" "[C" ∈ ALL := allT1 178 (by decide +kernel) rfl
theorem fi_X9_15 : Fl RX9 15 9 0 := ⟨by decide, by decide, allT1 212 (by decide +kernel) rfl⟩
theorem ck_X9_21 : Cond.classLink RX9 21 (clC 1) ∈ ALL := allT1 180 (by decide +kernel) rfl
theorem in_1 : Cond.instantiable (clC 1) (nF 1) ∈ ALL := allT1 181 (by decide +kernel) rfl
theorem ii_1 : Cond.initialized (clC 1) ∈ ALL := allT1 7 (by decide +kernel) rfl
theorem fi_X9_24 : Fl RX9 24 9 1 := ⟨by decide, by decide, allT1 213 (by decide +kernel) rfl⟩
theorem fi_X9_28 : Fl RX9 28 9 2 := ⟨by decide, by decide, allT1 217 (by decide +kernel) rfl⟩
def iX9 (θ : Th) (V : Nat → Nat → Value) (o : Nat) : Nat → Nat → Value := (upC (upC (iX1 θ (upR (upC (upR V (o + 1) (fun _ => .int 0)) o 0 (.ref (be θ + (o + 1)))) (o + 2) (fun k => defaultValue (clty 1 k))) (o + 2)) o 1 (.ref (be θ + (o + 2)))) o 2 .null)
set_option maxRecDepth 20000 in
theorem c_X9_init {θ : Th} {l : Launch} {V : Nat → Nat → Value} {o : Nat} (h0 : kd o = 10) (k1 : kd (o + 1) = 13) (n1 : ln (o + 1) = 6) (k2 : kd (o + 2) = 2) (k3 : kd (o + 3) = 13) (n3 : ln (o + 3) = 4) (k4 : kd (o + 4) = 13) (n4 : ln (o + 4) = 24) (k5 : kd (o + 5) = 13) (n5 : ln (o + 5) = 24) : CnV θ l yX9_init cX9_init 1 2 5 64 [.ref (be θ + o)] V (o + 1) (iX9 θ V o) (o + 6) := by
  refine CnV.of (by decide) rfl (Nat.le_of_ble_eq_true rfl) fun p e s m below meth c X N hin hr hlk => ?_
  refine v_aload_n X dX9_init_0 rfl 0 rfl ?_
  refine v_objInit X oi_X9 oiI oiC ⟨by decide, by decide⟩ dX9_init_1 ?_
  refine v_aload_n X dX9_init_4 rfl 0 rfl ?_
  refine v_gets X X.2.2.1.1.2.1 gs_X9_9 dX9_init_5 ?_
  refine v_tlen X X.2.2.1.1.2.2.1 (v := 6) (by decide) dX9_init_8 ?_
  refine v_newa (atype := .int) (k := 13) (N := 6) (dv := .int 0) X k1 (by decide) n1 acI (cl13 X.2.1) rfl (by decide) (by decide) (by decide) (by decide) (by decide) dX9_init_9 ?_
  refine v_put X fi_X9_15 dX9_init_11 h0 (by omega) (Or.inr ⟨rfl, hin, rfl⟩) rfl rfl ?_
  refine v_aload_n X dX9_init_14 rfl 0 rfl ?_
  refine v_new (ci := 1) X (by decide) k2 ck_X9_21 in_1 ii_1 (by decide) (by decide) dX9_init_15 ?_
  refine v_dup X dX9_init_18 rfl ?_
  refine v_callN X N (c_X1_init (o := o + 2) k2 k3 n3 k4 n4 k5 n5) (by decide +kernel) mi_X1 (Nat.le_of_ble_eq_true rfl) ⟨by decide, by decide⟩ ⟨by decide, by decide⟩ dX9_init_19 ?_
  refine v_put X fi_X9_24 dX9_init_22 h0 (by omega) (Or.inl rfl) rfl rfl ?_
  refine v_aload_n X dX9_init_25 rfl 0 rfl ?_
  refine v_null X dX9_init_26 ?_
  refine v_put X fi_X9_28 dX9_init_27 h0 (by omega) (Or.inl rfl) rfl rfl ?_
  exact v_vret X N hr hlk dX9_init_30 rfl
theorem dX11_init_0 : decode cX11_init 0 = .ok (.aload_n 0, 1) := by decide +kernel
theorem dX11_init_1 : decode cX11_init 1 = .ok (.invokespecial 3, 3) := by decide +kernel
theorem dX11_init_4 : decode cX11_init 4 = .ok (.aload_n 0, 1) := by decide +kernel
theorem dX11_init_5 : decode cX11_init 5 = .ok (.sipush 240, 3) := by decide +kernel
theorem dX11_init_8 : decode cX11_init 8 = .ok (.newarray .byte, 2) := by decide +kernel
theorem dX11_init_10 : decode cX11_init 10 = .ok (.putfield 9, 3) := by decide +kernel
theorem dX11_init_13 : decode cX11_init 13 = .ok (.aload_n 0, 1) := by decide +kernel
theorem dX11_init_14 : decode cX11_init 14 = .ok (.sipush 960, 3) := by decide +kernel
theorem dX11_init_17 : decode cX11_init 17 = .ok (.newarray .byte, 2) := by decide +kernel
theorem dX11_init_19 : decode cX11_init 19 = .ok (.putfield 13, 3) := by decide +kernel
theorem dX11_init_22 : decode cX11_init 22 = .ok (.aload_n 0, 1) := by decide +kernel
theorem dX11_init_23 : decode cX11_init 23 = .ok (.iconst 4, 1) := by decide +kernel
theorem dX11_init_24 : decode cX11_init 24 = .ok (.newarray .int, 2) := by decide +kernel
theorem dX11_init_26 : decode cX11_init 26 = .ok (.putfield 16, 3) := by decide +kernel
theorem dX11_init_29 : decode cX11_init 29 = .ok (.aload_n 0, 1) := by decide +kernel
theorem dX11_init_30 : decode cX11_init 30 = .ok (.sipush 128, 3) := by decide +kernel
theorem dX11_init_33 : decode cX11_init 33 = .ok (.newarray .int, 2) := by decide +kernel
theorem dX11_init_35 : decode cX11_init 35 = .ok (.putfield 20, 3) := by decide +kernel
theorem dX11_init_38 : decode cX11_init 38 = .ok (.aload_n 0, 1) := by decide +kernel
theorem dX11_init_39 : decode cX11_init 39 = .ok (.aload_n 0, 1) := by decide +kernel
theorem dX11_init_40 : decode cX11_init 40 = .ok (.getfield 9, 3) := by decide +kernel
theorem dX11_init_43 : decode cX11_init 43 = .ok (.putfield 23, 3) := by decide +kernel
theorem dX11_init_46 : decode cX11_init 46 = .ok (.aload_n 0, 1) := by decide +kernel
theorem dX11_init_47 : decode cX11_init 47 = .ok (.ldc 26, 2) := by decide +kernel
theorem dX11_init_49 : decode cX11_init 49 = .ok (.putfield 28, 3) := by decide +kernel
theorem dX11_init_52 : decode cX11_init 52 = .ok (.aload_n 0, 1) := by decide +kernel
theorem dX11_init_53 : decode cX11_init 53 = .ok (.ldc 32, 2) := by decide +kernel
theorem dX11_init_55 : decode cX11_init 55 = .ok (.putfield 34, 3) := by decide +kernel
theorem dX11_init_58 : decode cX11_init 58 = .ok (.aload_n 0, 1) := by decide +kernel
theorem dX11_init_59 : decode cX11_init 59 = .ok (.iconst 4, 1) := by decide +kernel
theorem dX11_init_60 : decode cX11_init 60 = .ok (.newarray .int, 2) := by decide +kernel
theorem dX11_init_62 : decode cX11_init 62 = .ok (.putfield 37, 3) := by decide +kernel
theorem dX11_init_65 : decode cX11_init 65 = .ok (.aload_n 0, 1) := by decide +kernel
theorem dX11_init_66 : decode cX11_init 66 = .ok (.iconst 4, 1) := by decide +kernel
theorem dX11_init_67 : decode cX11_init 67 = .ok (.newarray .int, 2) := by decide +kernel
theorem dX11_init_69 : decode cX11_init 69 = .ok (.putfield 40, 3) := by decide +kernel
theorem dX11_init_72 : decode cX11_init 72 = .ok (.aload_n 0, 1) := by decide +kernel
theorem dX11_init_73 : decode cX11_init 73 = .ok (.bipush 24, 2) := by decide +kernel
theorem dX11_init_75 : decode cX11_init 75 = .ok (.newarray .int, 2) := by decide +kernel
theorem dX11_init_77 : decode cX11_init 77 = .ok (.putfield 43, 3) := by decide +kernel
theorem dX11_init_80 : decode cX11_init 80 = .ok (.aload_n 0, 1) := by decide +kernel
theorem dX11_init_81 : decode cX11_init 81 = .ok (.bipush 24, 2) := by decide +kernel
theorem dX11_init_83 : decode cX11_init 83 = .ok (.newarray .int, 2) := by decide +kernel
theorem dX11_init_85 : decode cX11_init 85 = .ok (.putfield 46, 3) := by decide +kernel
theorem dX11_init_88 : decode cX11_init 88 = .ok (.aload_n 0, 1) := by decide +kernel
theorem dX11_init_89 : decode cX11_init 89 = .ok (.bipush 24, 2) := by decide +kernel
theorem dX11_init_91 : decode cX11_init 91 = .ok (.newarray .int, 2) := by decide +kernel
theorem dX11_init_93 : decode cX11_init 93 = .ok (.putfield 49, 3) := by decide +kernel
theorem dX11_init_96 : decode cX11_init 96 = .ok (.aload_n 0, 1) := by decide +kernel
theorem dX11_init_97 : decode cX11_init 97 = .ok (.bipush 24, 2) := by decide +kernel
theorem dX11_init_99 : decode cX11_init 99 = .ok (.newarray .int, 2) := by decide +kernel
theorem dX11_init_101 : decode cX11_init 101 = .ok (.putfield 52, 3) := by decide +kernel
theorem dX11_init_104 : decode cX11_init 104 = .ok (.aload_n 0, 1) := by decide +kernel
theorem dX11_init_105 : decode cX11_init 105 = .ok (.sipush 240, 3) := by decide +kernel
theorem dX11_init_108 : decode cX11_init 108 = .ok (.newarray .int, 2) := by decide +kernel
theorem dX11_init_110 : decode cX11_init 110 = .ok (.putfield 55, 3) := by decide +kernel
theorem dX11_init_113 : decode cX11_init 113 = .ok (.aload_n 0, 1) := by decide +kernel
theorem dX11_init_114 : decode cX11_init 114 = .ok (.iconst 5, 1) := by decide +kernel
theorem dX11_init_115 : decode cX11_init 115 = .ok (.newarray .int, 2) := by decide +kernel
theorem dX11_init_117 : decode cX11_init 117 = .ok (.putfield 58, 3) := by decide +kernel
theorem dX11_init_120 : decode cX11_init 120 = .ok (.aload_n 0, 1) := by decide +kernel
theorem dX11_init_121 : decode cX11_init 121 = .ok (.sipush 312, 3) := by decide +kernel
theorem dX11_init_124 : decode cX11_init 124 = .ok (.newarray .int, 2) := by decide +kernel
theorem dX11_init_126 : decode cX11_init 126 = .ok (.putfield 61, 3) := by decide +kernel
theorem dX11_init_129 : decode cX11_init 129 = .ok (.aload_n 0, 1) := by decide +kernel
theorem dX11_init_130 : decode cX11_init 130 = .ok (.sipush 131, 3) := by decide +kernel
theorem dX11_init_133 : decode cX11_init 133 = .ok (.newarray .int, 2) := by decide +kernel
theorem dX11_init_135 : decode cX11_init 135 = .ok (.putfield 64, 3) := by decide +kernel
theorem dX11_init_138 : decode cX11_init 138 = .ok (.aload_n 0, 1) := by decide +kernel
theorem dX11_init_139 : decode cX11_init 139 = .ok (.bipush 6, 2) := by decide +kernel
theorem dX11_init_141 : decode cX11_init 141 = .ok (.newarray .int, 2) := by decide +kernel
theorem dX11_init_143 : decode cX11_init 143 = .ok (.putfield 67, 3) := by decide +kernel
theorem dX11_init_146 : decode cX11_init 146 = .ok (.aload_n 0, 1) := by decide +kernel
theorem dX11_init_147 : decode cX11_init 147 = .ok (.iconst (-1), 1) := by decide +kernel
theorem dX11_init_148 : decode cX11_init 148 = .ok (.putfield 70, 3) := by decide +kernel
theorem dX11_init_151 : decode cX11_init 151 = .ok (.aload_n 0, 1) := by decide +kernel
theorem dX11_init_152 : decode cX11_init 152 = .ok (.iconst 2, 1) := by decide +kernel
theorem dX11_init_153 : decode cX11_init 153 = .ok (.putfield 74, 3) := by decide +kernel
theorem dX11_init_156 : decode cX11_init 156 = .ok (.aload_n 0, 1) := by decide +kernel
theorem dX11_init_157 : decode cX11_init 157 = .ok (.sipush 8191, 3) := by decide +kernel
theorem dX11_init_160 : decode cX11_init 160 = .ok (.newarray .long, 2) := by decide +kernel
theorem dX11_init_162 : decode cX11_init 162 = .ok (.putfield 77, 3) := by decide +kernel
theorem dX11_init_165 : decode cX11_init 165 = .ok (.aload_n 0, 1) := by decide +kernel
theorem dX11_init_166 : decode cX11_init 166 = .ok (.sipush 8191, 3) := by decide +kernel
theorem dX11_init_169 : decode cX11_init 169 = .ok (.newarray .int, 2) := by decide +kernel
theorem dX11_init_171 : decode cX11_init 171 = .ok (.putfield 81, 3) := by decide +kernel
theorem dX11_init_174 : decode cX11_init 174 = .ok (.aload_n 0, 1) := by decide +kernel
theorem dX11_init_175 : decode cX11_init 175 = .ok (.iconst (-1), 1) := by decide +kernel
theorem dX11_init_176 : decode cX11_init 176 = .ok (.putfield 84, 3) := by decide +kernel
theorem dX11_init_179 : decode cX11_init 179 = .ok (.aload_n 0, 1) := by decide +kernel
theorem dX11_init_180 : decode cX11_init 180 = .ok (.iconst (-1), 1) := by decide +kernel
theorem dX11_init_181 : decode cX11_init 181 = .ok (.putfield 87, 3) := by decide +kernel
theorem dX11_init_184 : decode cX11_init 184 = .ok (.aload_n 0, 1) := by decide +kernel
theorem dX11_init_185 : decode cX11_init 185 = .ok (.sipush 12480, 3) := by decide +kernel
theorem dX11_init_188 : decode cX11_init 188 = .ok (.newarray .int, 2) := by decide +kernel
theorem dX11_init_190 : decode cX11_init 190 = .ok (.putfield 90, 3) := by decide +kernel
theorem dX11_init_193 : decode cX11_init 193 = .ok (.aload_n 0, 1) := by decide +kernel
theorem dX11_init_194 : decode cX11_init 194 = .ok (.iconst 4, 1) := by decide +kernel
theorem dX11_init_195 : decode cX11_init 195 = .ok (.newarray .int, 2) := by decide +kernel
theorem dX11_init_197 : decode cX11_init 197 = .ok (.putfield 93, 3) := by decide +kernel
theorem dX11_init_200 : decode cX11_init 200 = .ok (.aload_n 0, 1) := by decide +kernel
theorem dX11_init_201 : decode cX11_init 201 = .ok (.bipush 30, 2) := by decide +kernel
theorem dX11_init_203 : decode cX11_init 203 = .ok (.newarray .int, 2) := by decide +kernel
theorem dX11_init_205 : decode cX11_init 205 = .ok (.putfield 96, 3) := by decide +kernel
theorem dX11_init_208 : decode cX11_init 208 = .ok (.aload_n 0, 1) := by decide +kernel
theorem dX11_init_209 : decode cX11_init 209 = .ok (.sipush 610, 3) := by decide +kernel
theorem dX11_init_212 : decode cX11_init 212 = .ok (.newarray .int, 2) := by decide +kernel
theorem dX11_init_214 : decode cX11_init 214 = .ok (.putfield 99, 3) := by decide +kernel
theorem dX11_init_217 : decode cX11_init 217 = .ok (.aload_n 0, 1) := by decide +kernel
theorem dX11_init_218 : decode cX11_init 218 = .ok (.bipush 10, 2) := by decide +kernel
theorem dX11_init_220 : decode cX11_init 220 = .ok (.newarray .boolean, 2) := by decide +kernel
theorem dX11_init_222 : decode cX11_init 222 = .ok (.putfield 102, 3) := by decide +kernel
theorem dX11_init_225 : decode cX11_init 225 = .ok (.aload_n 0, 1) := by decide +kernel
theorem dX11_init_226 : decode cX11_init 226 = .ok (.sipush 917, 3) := by decide +kernel
theorem dX11_init_229 : decode cX11_init 229 = .ok (.newarray .int, 2) := by decide +kernel
theorem dX11_init_231 : decode cX11_init 231 = .ok (.putfield 106, 3) := by decide +kernel
theorem dX11_init_234 : decode cX11_init 234 = .ok (.aload_n 0, 1) := by decide +kernel
theorem dX11_init_235 : decode cX11_init 235 = .ok (.sipush 312, 3) := by decide +kernel
theorem dX11_init_238 : decode cX11_init 238 = .ok (.newarray .int, 2) := by decide +kernel
theorem dX11_init_240 : decode cX11_init 240 = .ok (.putfield 109, 3) := by decide +kernel
theorem dX11_init_243 : decode cX11_init 243 = .ok (.return_, 1) := by decide +kernel
theorem mi_X11 : MyI yX11_init cX11_init 1 := ⟨⟨allT5 233 (by decide +kernel) rfl, allT1 12 (by decide +kernel) rfl, allT5 234 (by decide +kernel) rfl⟩, rfl, by decide +kernel, by decide +kernel, by decide +kernel⟩
theorem oi_X11 : Cond.methodLink RX11 3 Lib.objectInit ∈ ALL := allT5 235 (by decide +kernel) rfl
theorem fi_X11_9 : Fl RX11 9 11 1 := ⟨by decide, by decide, allT5 239 (by decide +kernel) rfl⟩
theorem fi_X11_13 : Fl RX11 13 11 2 := ⟨by decide, by decide, allT6 0 (by decide +kernel) rfl⟩
theorem fi_X11_16 : Fl RX11 16 11 3 := ⟨by decide, by decide, allT6 1 (by decide +kernel) rfl⟩
theorem fi_X11_20 : Fl RX11 20 11 4 := ⟨by decide, by decide, allT6 2 (by decide +kernel) rfl⟩
theorem fi_X11_23 : Fl RX11 23 11 5 := ⟨by decide, by decide, allT6 3 (by decide +kernel) rfl⟩
theorem fi_X11_28 : Fl RX11 28 11 15 := ⟨by decide, by decide, allT6 13 (by decide +kernel) rfl⟩
theorem fi_X11_34 : Fl RX11 34 11 16 := ⟨by decide, by decide, allT6 14 (by decide +kernel) rfl⟩
theorem fi_X11_37 : Fl RX11 37 11 18 := ⟨by decide, by decide, allT6 16 (by decide +kernel) rfl⟩
theorem fi_X11_40 : Fl RX11 40 11 19 := ⟨by decide, by decide, allT6 17 (by decide +kernel) rfl⟩
theorem fi_X11_43 : Fl RX11 43 11 20 := ⟨by decide, by decide, allT6 18 (by decide +kernel) rfl⟩
theorem fi_X11_46 : Fl RX11 46 11 21 := ⟨by decide, by decide, allT6 19 (by decide +kernel) rfl⟩
theorem fi_X11_49 : Fl RX11 49 11 22 := ⟨by decide, by decide, allT6 20 (by decide +kernel) rfl⟩
theorem fi_X11_52 : Fl RX11 52 11 23 := ⟨by decide, by decide, allT6 21 (by decide +kernel) rfl⟩
theorem fi_X11_55 : Fl RX11 55 11 24 := ⟨by decide, by decide, allT6 22 (by decide +kernel) rfl⟩
theorem fi_X11_58 : Fl RX11 58 11 25 := ⟨by decide, by decide, allT6 23 (by decide +kernel) rfl⟩
theorem fi_X11_61 : Fl RX11 61 11 32 := ⟨by decide, by decide, allT6 30 (by decide +kernel) rfl⟩
theorem fi_X11_64 : Fl RX11 64 11 33 := ⟨by decide, by decide, allT6 31 (by decide +kernel) rfl⟩
theorem fi_X11_67 : Fl RX11 67 11 34 := ⟨by decide, by decide, allT6 32 (by decide +kernel) rfl⟩
theorem fi_X11_70 : Fl RX11 70 11 35 := ⟨by decide, by decide, allT6 33 (by decide +kernel) rfl⟩
theorem fi_X11_74 : Fl RX11 74 11 36 := ⟨by decide, by decide, allT6 34 (by decide +kernel) rfl⟩
theorem fi_X11_77 : Fl RX11 77 11 37 := ⟨by decide, by decide, allT6 35 (by decide +kernel) rfl⟩
theorem fi_X11_81 : Fl RX11 81 11 38 := ⟨by decide, by decide, allT6 36 (by decide +kernel) rfl⟩
theorem fi_X11_84 : Fl RX11 84 11 39 := ⟨by decide, by decide, allT6 37 (by decide +kernel) rfl⟩
theorem fi_X11_87 : Fl RX11 87 11 41 := ⟨by decide, by decide, allT6 39 (by decide +kernel) rfl⟩
theorem fi_X11_90 : Fl RX11 90 11 43 := ⟨by decide, by decide, allT6 41 (by decide +kernel) rfl⟩
theorem fi_X11_93 : Fl RX11 93 11 46 := ⟨by decide, by decide, allT6 44 (by decide +kernel) rfl⟩
theorem fi_X11_96 : Fl RX11 96 11 50 := ⟨by decide, by decide, allT6 48 (by decide +kernel) rfl⟩
theorem fi_X11_99 : Fl RX11 99 11 52 := ⟨by decide, by decide, allT6 50 (by decide +kernel) rfl⟩
theorem fi_X11_102 : Fl RX11 102 11 53 := ⟨by decide, by decide, allT6 51 (by decide +kernel) rfl⟩
theorem fi_X11_106 : Fl RX11 106 11 54 := ⟨by decide, by decide, allT6 52 (by decide +kernel) rfl⟩
theorem fi_X11_109 : Fl RX11 109 11 55 := ⟨by decide, by decide, allT6 53 (by decide +kernel) rfl⟩
def iX11 (θ : Th) (V : Nat → Nat → Value) (o : Nat) : Nat → Nat → Value := (upC (upR (upC (upR (upC (upR (upC (upR (upC (upR (upC (upR (upC (upR (upC (upC (upC (upR (upC (upR (upC (upC (upC (upR (upC (upR (upC (upR (upC (upR (upC (upR (upC (upR (upC (upR (upC (upR (upC (upR (upC (upR (upC (upR (upC (upC (upC (upC (upR (upC (upR (upC (upR (upC (upR V (o + 1) (fun _ => .int 0)) o 1 (.ref (be θ + (o + 1)))) (o + 2) (fun _ => .int 0)) o 2 (.ref (be θ + (o + 2)))) (o + 3) (fun _ => .int 0)) o 3 (.ref (be θ + (o + 3)))) (o + 4) (fun _ => .int 0)) o 4 (.ref (be θ + (o + 4)))) o 5 (.ref (be θ + (o + 1)))) o 15 (.ref (sA θ 0))) o 16 (.ref (sA θ 1))) (o + 5) (fun _ => .int 0)) o 18 (.ref (be θ + (o + 5)))) (o + 6) (fun _ => .int 0)) o 19 (.ref (be θ + (o + 6)))) (o + 7) (fun _ => .int 0)) o 20 (.ref (be θ + (o + 7)))) (o + 8) (fun _ => .int 0)) o 21 (.ref (be θ + (o + 8)))) (o + 9) (fun _ => .int 0)) o 22 (.ref (be θ + (o + 9)))) (o + 10) (fun _ => .int 0)) o 23 (.ref (be θ + (o + 10)))) (o + 11) (fun _ => .int 0)) o 24 (.ref (be θ + (o + 11)))) (o + 12) (fun _ => .int 0)) o 25 (.ref (be θ + (o + 12)))) (o + 13) (fun _ => .int 0)) o 32 (.ref (be θ + (o + 13)))) (o + 14) (fun _ => .int 0)) o 33 (.ref (be θ + (o + 14)))) (o + 15) (fun _ => .int 0)) o 34 (.ref (be θ + (o + 15)))) o 35 (.int (-1 : Int32))) o 36 (.int (2 : Int32))) (o + 16) (fun _ => .long 0)) o 37 (.ref (be θ + (o + 16)))) (o + 17) (fun _ => .int 0)) o 38 (.ref (be θ + (o + 17)))) o 39 (.int (-1 : Int32))) o 41 (.int (-1 : Int32))) (o + 18) (fun _ => .int 0)) o 43 (.ref (be θ + (o + 18)))) (o + 19) (fun _ => .int 0)) o 46 (.ref (be θ + (o + 19)))) (o + 20) (fun _ => .int 0)) o 50 (.ref (be θ + (o + 20)))) (o + 21) (fun _ => .int 0)) o 52 (.ref (be θ + (o + 21)))) (o + 22) (fun _ => .int 0)) o 53 (.ref (be θ + (o + 22)))) (o + 23) (fun _ => .int 0)) o 54 (.ref (be θ + (o + 23)))) (o + 24) (fun _ => .int 0)) o 55 (.ref (be θ + (o + 24))))
set_option maxRecDepth 20000 in
theorem c_X11_init {θ : Th} {l : Launch} {V : Nat → Nat → Value} {o : Nat} (h0 : kd o = 12) (k1 : kd (o + 1) = 14) (n1 : ln (o + 1) = 240) (k2 : kd (o + 2) = 14) (n2 : ln (o + 2) = 960) (k3 : kd (o + 3) = 13) (n3 : ln (o + 3) = 4) (k4 : kd (o + 4) = 13) (n4 : ln (o + 4) = 128) (k5 : kd (o + 5) = 13) (n5 : ln (o + 5) = 4) (k6 : kd (o + 6) = 13) (n6 : ln (o + 6) = 4) (k7 : kd (o + 7) = 13) (n7 : ln (o + 7) = 24) (k8 : kd (o + 8) = 13) (n8 : ln (o + 8) = 24) (k9 : kd (o + 9) = 13) (n9 : ln (o + 9) = 24) (k10 : kd (o + 10) = 13) (n10 : ln (o + 10) = 24) (k11 : kd (o + 11) = 13) (n11 : ln (o + 11) = 240) (k12 : kd (o + 12) = 13) (n12 : ln (o + 12) = 5) (k13 : kd (o + 13) = 13) (n13 : ln (o + 13) = 312) (k14 : kd (o + 14) = 13) (n14 : ln (o + 14) = 131) (k15 : kd (o + 15) = 13) (n15 : ln (o + 15) = 6) (k16 : kd (o + 16) = 16) (n16 : ln (o + 16) = 8191) (k17 : kd (o + 17) = 13) (n17 : ln (o + 17) = 8191) (k18 : kd (o + 18) = 13) (n18 : ln (o + 18) = 12480) (k19 : kd (o + 19) = 13) (n19 : ln (o + 19) = 4) (k20 : kd (o + 20) = 13) (n20 : ln (o + 20) = 30) (k21 : kd (o + 21) = 13) (n21 : ln (o + 21) = 610) (k22 : kd (o + 22) = 15) (n22 : ln (o + 22) = 10) (k23 : kd (o + 23) = 13) (n23 : ln (o + 23) = 917) (k24 : kd (o + 24) = 13) (n24 : ln (o + 24) = 312) : CnV θ l yX11_init cX11_init 1 1 24 32875 [.ref (be θ + o)] V (o + 1) (iX11 θ V o) (o + 25) := by
  refine CnV.of (by decide) rfl (Nat.le_of_ble_eq_true rfl) fun p e s m below meth c X N hin hr hlk => ?_
  refine v_aload_n X dX11_init_0 rfl 0 rfl ?_
  refine v_objInit X oi_X11 oiI oiC ⟨by decide, by decide⟩ dX11_init_1 ?_
  refine v_aload_n X dX11_init_4 rfl 0 rfl ?_
  refine v_sipush X dX11_init_5 (v := (240 : Int32)) (by decide) ?_
  refine v_newa (atype := .byte) (k := 14) (N := 240) (dv := .int 0) X k1 (by decide) n1 acB (cl14 X.2.1) rfl (by decide) (by decide) (by decide) (by decide) (by decide) dX11_init_8 ?_
  refine v_put X fi_X11_9 dX11_init_10 h0 (by omega) (Or.inr ⟨rfl, hin, rfl⟩) rfl rfl ?_
  refine v_aload_n X dX11_init_13 rfl 0 rfl ?_
  refine v_sipush X dX11_init_14 (v := (960 : Int32)) (by decide) ?_
  refine v_newa (atype := .byte) (k := 14) (N := 960) (dv := .int 0) X k2 (by decide) n2 acB (cl14 X.2.1) rfl (by decide) (by decide) (by decide) (by decide) (by decide) dX11_init_17 ?_
  refine v_put X fi_X11_13 dX11_init_19 h0 (by omega) (Or.inr ⟨rfl, hin, rfl⟩) rfl rfl ?_
  refine v_aload_n X dX11_init_22 rfl 0 rfl ?_
  refine v_iconst X dX11_init_23 (v := (4 : Int32)) (by decide) ?_
  refine v_newa (atype := .int) (k := 13) (N := 4) (dv := .int 0) X k3 (by decide) n3 acI (cl13 X.2.1) rfl (by decide) (by decide) (by decide) (by decide) (by decide) dX11_init_24 ?_
  refine v_put X fi_X11_16 dX11_init_26 h0 (by omega) (Or.inr ⟨rfl, hin, rfl⟩) rfl rfl ?_
  refine v_aload_n X dX11_init_29 rfl 0 rfl ?_
  refine v_sipush X dX11_init_30 (v := (128 : Int32)) (by decide) ?_
  refine v_newa (atype := .int) (k := 13) (N := 128) (dv := .int 0) X k4 (by decide) n4 acI (cl13 X.2.1) rfl (by decide) (by decide) (by decide) (by decide) (by decide) dX11_init_33 ?_
  refine v_put X fi_X11_20 dX11_init_35 h0 (by omega) (Or.inr ⟨rfl, hin, rfl⟩) rfl rfl ?_
  refine v_aload_n X dX11_init_38 rfl 0 rfl ?_
  refine v_aload_n X dX11_init_39 rfl 0 rfl ?_
  refine v_get X fi_X11_9 dX11_init_40 h0 (by omega) (v := (.ref (be θ + (o + 1)))) (by simp [upC, upR, updV, Nat.add_assoc]) ?_
  refine v_put X fi_X11_23 dX11_init_43 h0 (by omega) (Or.inl rfl) rfl rfl ?_
  refine v_aload_n X dX11_init_46 rfl 0 rfl ?_
  refine v_ldcS X X.2.2.1.2.2.1.1 dX11_init_47 ?_
  refine v_put X fi_X11_28 dX11_init_49 h0 (by omega) (Or.inr ⟨rfl, hin, rfl⟩) rfl rfl ?_
  refine v_aload_n X dX11_init_52 rfl 0 rfl ?_
  refine v_ldcS X X.2.2.1.2.2.1.2.1 dX11_init_53 ?_
  refine v_put X fi_X11_34 dX11_init_55 h0 (by omega) (Or.inr ⟨rfl, hin, rfl⟩) rfl rfl ?_
  refine v_aload_n X dX11_init_58 rfl 0 rfl ?_
  refine v_iconst X dX11_init_59 (v := (4 : Int32)) (by decide) ?_
  refine v_newa (atype := .int) (k := 13) (N := 4) (dv := .int 0) X k5 (by decide) n5 acI (cl13 X.2.1) rfl (by decide) (by decide) (by decide) (by decide) (by decide) dX11_init_60 ?_
  refine v_put X fi_X11_37 dX11_init_62 h0 (by omega) (Or.inr ⟨rfl, hin, rfl⟩) rfl rfl ?_
  refine v_aload_n X dX11_init_65 rfl 0 rfl ?_
  refine v_iconst X dX11_init_66 (v := (4 : Int32)) (by decide) ?_
  refine v_newa (atype := .int) (k := 13) (N := 4) (dv := .int 0) X k6 (by decide) n6 acI (cl13 X.2.1) rfl (by decide) (by decide) (by decide) (by decide) (by decide) dX11_init_67 ?_
  refine v_put X fi_X11_40 dX11_init_69 h0 (by omega) (Or.inr ⟨rfl, hin, rfl⟩) rfl rfl ?_
  refine v_aload_n X dX11_init_72 rfl 0 rfl ?_
  refine v_bipush X dX11_init_73 (v := (24 : Int32)) (by decide) ?_
  refine v_newa (atype := .int) (k := 13) (N := 24) (dv := .int 0) X k7 (by decide) n7 acI (cl13 X.2.1) rfl (by decide) (by decide) (by decide) (by decide) (by decide) dX11_init_75 ?_
  refine v_put X fi_X11_43 dX11_init_77 h0 (by omega) (Or.inr ⟨rfl, hin, rfl⟩) rfl rfl ?_
  refine v_aload_n X dX11_init_80 rfl 0 rfl ?_
  refine v_bipush X dX11_init_81 (v := (24 : Int32)) (by decide) ?_
  refine v_newa (atype := .int) (k := 13) (N := 24) (dv := .int 0) X k8 (by decide) n8 acI (cl13 X.2.1) rfl (by decide) (by decide) (by decide) (by decide) (by decide) dX11_init_83 ?_
  refine v_put X fi_X11_46 dX11_init_85 h0 (by omega) (Or.inr ⟨rfl, hin, rfl⟩) rfl rfl ?_
  refine v_aload_n X dX11_init_88 rfl 0 rfl ?_
  refine v_bipush X dX11_init_89 (v := (24 : Int32)) (by decide) ?_
  refine v_newa (atype := .int) (k := 13) (N := 24) (dv := .int 0) X k9 (by decide) n9 acI (cl13 X.2.1) rfl (by decide) (by decide) (by decide) (by decide) (by decide) dX11_init_91 ?_
  refine v_put X fi_X11_49 dX11_init_93 h0 (by omega) (Or.inr ⟨rfl, hin, rfl⟩) rfl rfl ?_
  refine v_aload_n X dX11_init_96 rfl 0 rfl ?_
  refine v_bipush X dX11_init_97 (v := (24 : Int32)) (by decide) ?_
  refine v_newa (atype := .int) (k := 13) (N := 24) (dv := .int 0) X k10 (by decide) n10 acI (cl13 X.2.1) rfl (by decide) (by decide) (by decide) (by decide) (by decide) dX11_init_99 ?_
  refine v_put X fi_X11_52 dX11_init_101 h0 (by omega) (Or.inr ⟨rfl, hin, rfl⟩) rfl rfl ?_
  refine v_aload_n X dX11_init_104 rfl 0 rfl ?_
  refine v_sipush X dX11_init_105 (v := (240 : Int32)) (by decide) ?_
  refine v_newa (atype := .int) (k := 13) (N := 240) (dv := .int 0) X k11 (by decide) n11 acI (cl13 X.2.1) rfl (by decide) (by decide) (by decide) (by decide) (by decide) dX11_init_108 ?_
  refine v_put X fi_X11_55 dX11_init_110 h0 (by omega) (Or.inr ⟨rfl, hin, rfl⟩) rfl rfl ?_
  refine v_aload_n X dX11_init_113 rfl 0 rfl ?_
  refine v_iconst X dX11_init_114 (v := (5 : Int32)) (by decide) ?_
  refine v_newa (atype := .int) (k := 13) (N := 5) (dv := .int 0) X k12 (by decide) n12 acI (cl13 X.2.1) rfl (by decide) (by decide) (by decide) (by decide) (by decide) dX11_init_115 ?_
  refine v_put X fi_X11_58 dX11_init_117 h0 (by omega) (Or.inr ⟨rfl, hin, rfl⟩) rfl rfl ?_
  refine v_aload_n X dX11_init_120 rfl 0 rfl ?_
  refine v_sipush X dX11_init_121 (v := (312 : Int32)) (by decide) ?_
  refine v_newa (atype := .int) (k := 13) (N := 312) (dv := .int 0) X k13 (by decide) n13 acI (cl13 X.2.1) rfl (by decide) (by decide) (by decide) (by decide) (by decide) dX11_init_124 ?_
  refine v_put X fi_X11_61 dX11_init_126 h0 (by omega) (Or.inr ⟨rfl, hin, rfl⟩) rfl rfl ?_
  refine v_aload_n X dX11_init_129 rfl 0 rfl ?_
  refine v_sipush X dX11_init_130 (v := (131 : Int32)) (by decide) ?_
  refine v_newa (atype := .int) (k := 13) (N := 131) (dv := .int 0) X k14 (by decide) n14 acI (cl13 X.2.1) rfl (by decide) (by decide) (by decide) (by decide) (by decide) dX11_init_133 ?_
  refine v_put X fi_X11_64 dX11_init_135 h0 (by omega) (Or.inr ⟨rfl, hin, rfl⟩) rfl rfl ?_
  refine v_aload_n X dX11_init_138 rfl 0 rfl ?_
  refine v_bipush X dX11_init_139 (v := (6 : Int32)) (by decide) ?_
  refine v_newa (atype := .int) (k := 13) (N := 6) (dv := .int 0) X k15 (by decide) n15 acI (cl13 X.2.1) rfl (by decide) (by decide) (by decide) (by decide) (by decide) dX11_init_141 ?_
  refine v_put X fi_X11_67 dX11_init_143 h0 (by omega) (Or.inr ⟨rfl, hin, rfl⟩) rfl rfl ?_
  refine v_aload_n X dX11_init_146 rfl 0 rfl ?_
  refine v_iconst X dX11_init_147 (v := (-1 : Int32)) (by decide) ?_
  refine v_put X fi_X11_70 dX11_init_148 h0 (by omega) (Or.inl rfl) rfl rfl ?_
  refine v_aload_n X dX11_init_151 rfl 0 rfl ?_
  refine v_iconst X dX11_init_152 (v := (2 : Int32)) (by decide) ?_
  refine v_put X fi_X11_74 dX11_init_153 h0 (by omega) (Or.inl rfl) rfl rfl ?_
  refine v_aload_n X dX11_init_156 rfl 0 rfl ?_
  refine v_sipush X dX11_init_157 (v := (8191 : Int32)) (by decide) ?_
  refine v_newa (atype := .long) (k := 16) (N := 8191) (dv := .long 0) X k16 (by decide) n16 acL (cl16 X.2.1) rfl (by decide) (by decide) (by decide) (by decide) (by decide) dX11_init_160 ?_
  refine v_put X fi_X11_77 dX11_init_162 h0 (by omega) (Or.inr ⟨rfl, hin, rfl⟩) rfl rfl ?_
  refine v_aload_n X dX11_init_165 rfl 0 rfl ?_
  refine v_sipush X dX11_init_166 (v := (8191 : Int32)) (by decide) ?_
  refine v_newa (atype := .int) (k := 13) (N := 8191) (dv := .int 0) X k17 (by decide) n17 acI (cl13 X.2.1) rfl (by decide) (by decide) (by decide) (by decide) (by decide) dX11_init_169 ?_
  refine v_put X fi_X11_81 dX11_init_171 h0 (by omega) (Or.inr ⟨rfl, hin, rfl⟩) rfl rfl ?_
  refine v_aload_n X dX11_init_174 rfl 0 rfl ?_
  refine v_iconst X dX11_init_175 (v := (-1 : Int32)) (by decide) ?_
  refine v_put X fi_X11_84 dX11_init_176 h0 (by omega) (Or.inl rfl) rfl rfl ?_
  refine v_aload_n X dX11_init_179 rfl 0 rfl ?_
  refine v_iconst X dX11_init_180 (v := (-1 : Int32)) (by decide) ?_
  refine v_put X fi_X11_87 dX11_init_181 h0 (by omega) (Or.inl rfl) rfl rfl ?_
  refine v_aload_n X dX11_init_184 rfl 0 rfl ?_
  refine v_sipush X dX11_init_185 (v := (12480 : Int32)) (by decide) ?_
  refine v_newa (atype := .int) (k := 13) (N := 12480) (dv := .int 0) X k18 (by decide) n18 acI (cl13 X.2.1) rfl (by decide) (by decide) (by decide) (by decide) (by decide) dX11_init_188 ?_
  refine v_put X fi_X11_90 dX11_init_190 h0 (by omega) (Or.inr ⟨rfl, hin, rfl⟩) rfl rfl ?_
  refine v_aload_n X dX11_init_193 rfl 0 rfl ?_
  refine v_iconst X dX11_init_194 (v := (4 : Int32)) (by decide) ?_
  refine v_newa (atype := .int) (k := 13) (N := 4) (dv := .int 0) X k19 (by decide) n19 acI (cl13 X.2.1) rfl (by decide) (by decide) (by decide) (by decide) (by decide) dX11_init_195 ?_
  refine v_put X fi_X11_93 dX11_init_197 h0 (by omega) (Or.inr ⟨rfl, hin, rfl⟩) rfl rfl ?_
  refine v_aload_n X dX11_init_200 rfl 0 rfl ?_
  refine v_bipush X dX11_init_201 (v := (30 : Int32)) (by decide) ?_
  refine v_newa (atype := .int) (k := 13) (N := 30) (dv := .int 0) X k20 (by decide) n20 acI (cl13 X.2.1) rfl (by decide) (by decide) (by decide) (by decide) (by decide) dX11_init_203 ?_
  refine v_put X fi_X11_96 dX11_init_205 h0 (by omega) (Or.inr ⟨rfl, hin, rfl⟩) rfl rfl ?_
  refine v_aload_n X dX11_init_208 rfl 0 rfl ?_
  refine v_sipush X dX11_init_209 (v := (610 : Int32)) (by decide) ?_
  refine v_newa (atype := .int) (k := 13) (N := 610) (dv := .int 0) X k21 (by decide) n21 acI (cl13 X.2.1) rfl (by decide) (by decide) (by decide) (by decide) (by decide) dX11_init_212 ?_
  refine v_put X fi_X11_99 dX11_init_214 h0 (by omega) (Or.inr ⟨rfl, hin, rfl⟩) rfl rfl ?_
  refine v_aload_n X dX11_init_217 rfl 0 rfl ?_
  refine v_bipush X dX11_init_218 (v := (10 : Int32)) (by decide) ?_
  refine v_newa (atype := .boolean) (k := 15) (N := 10) (dv := .int 0) X k22 (by decide) n22 acZ (cl15 X.2.1) rfl (by decide) (by decide) (by decide) (by decide) (by decide) dX11_init_220 ?_
  refine v_put X fi_X11_102 dX11_init_222 h0 (by omega) (Or.inr ⟨rfl, hin, rfl⟩) rfl rfl ?_
  refine v_aload_n X dX11_init_225 rfl 0 rfl ?_
  refine v_sipush X dX11_init_226 (v := (917 : Int32)) (by decide) ?_
  refine v_newa (atype := .int) (k := 13) (N := 917) (dv := .int 0) X k23 (by decide) n23 acI (cl13 X.2.1) rfl (by decide) (by decide) (by decide) (by decide) (by decide) dX11_init_229 ?_
  refine v_put X fi_X11_106 dX11_init_231 h0 (by omega) (Or.inr ⟨rfl, hin, rfl⟩) rfl rfl ?_
  refine v_aload_n X dX11_init_234 rfl 0 rfl ?_
  refine v_sipush X dX11_init_235 (v := (312 : Int32)) (by decide) ?_
  refine v_newa (atype := .int) (k := 13) (N := 312) (dv := .int 0) X k24 (by decide) n24 acI (cl13 X.2.1) rfl (by decide) (by decide) (by decide) (by decide) (by decide) dX11_init_238 ?_
  refine v_put X fi_X11_109 dX11_init_240 h0 (by omega) (Or.inr ⟨rfl, hin, rfl⟩) rfl rfl ?_
  exact v_vret X N hr hlk dX11_init_243 rfl
