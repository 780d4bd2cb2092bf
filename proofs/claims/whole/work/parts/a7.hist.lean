/-! constructors with loops (laid by wip/tools/ini.py) -/
theorem dX4_init_0 : decode cX4_init 0 = .ok (.aload_n 0, 1) := by decide +kernel
theorem dX4_init_1 : decode cX4_init 1 = .ok (.invokespecial 3, 3) := by decide +kernel
theorem dX4_init_4 : decode cX4_init 4 = .ok (.aload_n 0, 1) := by decide +kernel
theorem dX4_init_5 : decode cX4_init 5 = .ok (.bipush 40, 2) := by decide +kernel
theorem dX4_init_7 : decode cX4_init 7 = .ok (.anewarray 9, 3) := by decide +kernel
theorem dX4_init_10 : decode cX4_init 10 = .ok (.putfield 11, 3) := by decide +kernel
theorem dX4_init_13 : decode cX4_init 13 = .ok (.aload_n 0, 1) := by decide +kernel
theorem dX4_init_14 : decode cX4_init 14 = .ok (.iconst 0, 1) := by decide +kernel
theorem dX4_init_15 : decode cX4_init 15 = .ok (.putfield 17, 3) := by decide +kernel
theorem dX4_init_18 : decode cX4_init 18 = .ok (.aload_n 0, 1) := by decide +kernel
theorem dX4_init_19 : decode cX4_init 19 = .ok (.iconst 0, 1) := by decide +kernel
theorem dX4_init_20 : decode cX4_init 20 = .ok (.putfield 21, 3) := by decide +kernel
theorem dX4_init_23 : decode cX4_init 23 = .ok (.iconst 0, 1) := by decide +kernel
theorem dX4_init_24 : decode cX4_init 24 = .ok (.istore_n 1, 1) := by decide +kernel
theorem dX4_init_25 : decode cX4_init 25 = .ok (.iload_n 1, 1) := by decide +kernel
theorem dX4_init_26 : decode cX4_init 26 = .ok (.aload_n 0, 1) := by decide +kernel
theorem dX4_init_27 : decode cX4_init 27 = .ok (.getfield 11, 3) := by decide +kernel
theorem dX4_init_30 : decode cX4_init 30 = .ok (.arraylength, 1) := by decide +kernel
theorem dX4_init_31 : decode cX4_init 31 = .ok (.if_icmp .ge 22, 3) := by decide +kernel
theorem dX4_init_34 : decode cX4_init 34 = .ok (.aload_n 0, 1) := by decide +kernel
theorem dX4_init_35 : decode cX4_init 35 = .ok (.getfield 11, 3) := by decide +kernel
theorem dX4_init_38 : decode cX4_init 38 = .ok (.iload_n 1, 1) := by decide +kernel
theorem dX4_init_39 : decode cX4_init 39 = .ok (.new 9, 3) := by decide +kernel
theorem dX4_init_42 : decode cX4_init 42 = .ok (.dup, 1) := by decide +kernel
theorem dX4_init_43 : decode cX4_init 43 = .ok (.invokespecial 24, 3) := by decide +kernel
theorem dX4_init_46 : decode cX4_init 46 = .ok (.aastore, 1) := by decide +kernel
theorem dX4_init_47 : decode cX4_init 47 = .ok (.iinc 1 1, 3) := by decide +kernel
theorem dX4_init_50 : decode cX4_init 50 = .ok (.goto (-25), 3) := by decide +kernel
theorem dX4_init_53 : decode cX4_init 53 = .ok (.return_, 1) := by decide +kernel
theorem mi_X4 : MyI yX4_init cX4_init 2 := ⟨⟨allT1 155 (by decide +kernel) rfl, allT1 4 (by decide +kernel) rfl, allT1 156 (by decide +kernel) rfl⟩, rfl, by decide +kernel, by decide +kernel, by decide +kernel⟩
theorem oi_X4 : Cond.methodLink RX4 3 Lib.objectInit ∈ ALL := allT1 157 (by decide +kernel) rfl
theorem ck_X4_9 : Cond.classLink RX4 9 (clC 7) ∈ ALL := allT1 158 (by decide +kernel) rfl
theorem fi_X4_11 : Fl RX4 11 4 0 := ⟨by decide, by decide, allT1 161 (by decide +kernel) rfl⟩
theorem fi_X4_17 : Fl RX4 17 4 1 := ⟨by decide, by decide, allT1 162 (by decide +kernel) rfl⟩
theorem fi_X4_21 : Fl RX4 21 4 2 := ⟨by decide, by decide, allT1 163 (by decide +kernel) rfl⟩
def vX41 (θ : Th) (V : Nat → Nat → Value) : Nat → Nat → Value := (upC (upC (upC (upR V 27 (fun _ => .null)) 26 0 (.ref (be θ + 27))) 26 1 (.int (0 : Int32))) 26 2 (.int (0 : Int32)))
theorem hX41 (θ : Th) (V : Nat → Nat → Value) : vX41 θ V 26 0 = .ref (be θ + 27) := by
  simp [vX41, upC, upR, updV, iX7_keep, iX5_keep, iX2_keep, iX8_keep, iX1_keep, iX0_keep, iX3_keep, iX9_keep]
def iX4 (θ : Th) (V : Nat → Nat → Value) : Nat → Nat → Value := (fillV θ (iX7 θ) 7 27 10 28 (vX41 θ V) 40)
set_option maxRecDepth 20000 in
theorem c_X4_init {θ : Th} {l : Launch} {V : Nat → Nat → Value} : CnV θ l yX4_init cX4_init 2 2 401 13680 [.ref (be θ + 26)] V 27 (iX4 θ V) 428 := by
  refine CnV.of (by decide) rfl (Nat.le_of_ble_eq_true rfl) fun p e s m below meth c X N hin hr hlk => ?_
  refine v_aload_n X dX4_init_0 rfl 0 rfl ?_
  refine v_objInit X oi_X4 oiI oiC ⟨by decide, by decide⟩ dX4_init_1 ?_
  refine v_aload_n X dX4_init_4 rfl 0 rfl ?_
  refine v_bipush X dX4_init_5 (v := (40 : Int32)) (by decide) ?_
  refine v_anew (C := RX7) (k := 19) (N := 40) X (by decide +kernel) (by decide) (by decide +kernel) ck_X4_9 N.2.2.2 (RA19 X.2.1).2 (by decide) (by decide) (by decide) (by decide) (by decide) dX4_init_7 ?_
  refine v_put (a := 26) X fi_X4_11 dX4_init_10 (by decide +kernel) (by decide) (Or.inr ⟨rfl, hin, rfl⟩) rfl rfl ?_
  refine v_aload_n X dX4_init_13 rfl 0 rfl ?_
  refine v_iconst X dX4_init_14 (v := (0 : Int32)) (by decide) ?_
  refine v_put (a := 26) X fi_X4_17 dX4_init_15 (by decide +kernel) (by decide) (Or.inl rfl) rfl rfl ?_
  refine v_aload_n X dX4_init_18 rfl 0 rfl ?_
  refine v_iconst X dX4_init_19 (v := (0 : Int32)) (by decide) ?_
  refine v_put (a := 26) X fi_X4_21 dX4_init_20 (by decide +kernel) (by decide) (Or.inl rfl) rfl rfl ?_
  refine v_iconst X dX4_init_23 (v := (0 : Int32)) (by decide) ?_
  refine v_istore_n X dX4_init_24 rfl (by decide) rfl ?_
  refine v_fill (o := 26) (a := 27) (cj := 7) (kA := 19) (M := 40) (w := 10) (base := 28) (E := 53) (mc := 9) (ms := 326) (ini := iX7 θ) (V0 := vX41 θ V) X N (by decide) (by decide +kernel) fi_X4_11 (by decide +kernel) (by decide) (by decide +kernel) (by decide) (by decide) (fun i hi => (st_tab i hi).1) (fun V i hi => by
    obtain ⟨t0, ⟨k1, n1⟩, ⟨k2, n2⟩, ⟨k3, n3⟩, ⟨k4, n4⟩, ⟨k5, n5⟩, ⟨k6, n6⟩, ⟨k7, n7⟩, ⟨k8, n8⟩, ⟨k9, n9⟩⟩ := st_tab i hi
    exact c_X7_init (o := 28 + 10 * i) t0 k1 n1 k2 n2 k3 n3 k4 n4 k5 n5 k6 n6 k7 n7 k8 n8 k9 n9) (fun V n b h => iX7_keep V n b h) (by decide) (by decide) (by decide) (by decide) ck_X4_9 in_7 ii_7 (by decide +kernel) mi_X7 (RA19 X.2.1).1 dX4_init_25 dX4_init_26 dX4_init_27 dX4_init_30 dX4_init_31 dX4_init_34 dX4_init_35 dX4_init_38 dX4_init_39 dX4_init_42 dX4_init_43 dX4_init_46 dX4_init_47 dX4_init_50 (by decide) (by decide) ⟨by decide, by decide⟩ ⟨by decide, by decide⟩ (hX41 θ V) ?_
  exact v_vret X N hr hlk dX4_init_53 rfl
theorem dX6_init_0 : decode cX6_init 0 = .ok (.aload_n 0, 1) := by decide +kernel
theorem dX6_init_1 : decode cX6_init 1 = .ok (.invokespecial 3, 3) := by decide +kernel
theorem dX6_init_4 : decode cX6_init 4 = .ok (.aload_n 0, 1) := by decide +kernel
theorem dX6_init_5 : decode cX6_init 5 = .ok (.new 9, 3) := by decide +kernel
theorem dX6_init_8 : decode cX6_init 8 = .ok (.dup, 1) := by decide +kernel
theorem dX6_init_9 : decode cX6_init 9 = .ok (.invokespecial 11, 3) := by decide +kernel
theorem dX6_init_12 : decode cX6_init 12 = .ok (.putfield 12, 3) := by decide +kernel
theorem dX6_init_15 : decode cX6_init 15 = .ok (.aload_n 0, 1) := by decide +kernel
theorem dX6_init_16 : decode cX6_init 16 = .ok (.bipush 7, 2) := by decide +kernel
theorem dX6_init_18 : decode cX6_init 18 = .ok (.anewarray 9, 3) := by decide +kernel
theorem dX6_init_21 : decode cX6_init 21 = .ok (.putfield 18, 3) := by decide +kernel
theorem dX6_init_24 : decode cX6_init 24 = .ok (.aload_n 0, 1) := by decide +kernel
theorem dX6_init_25 : decode cX6_init 25 = .ok (.iconst (-1), 1) := by decide +kernel
theorem dX6_init_26 : decode cX6_init 26 = .ok (.putfield 22, 3) := by decide +kernel
theorem dX6_init_29 : decode cX6_init 29 = .ok (.aload_n 0, 1) := by decide +kernel
theorem dX6_init_30 : decode cX6_init 30 = .ok (.iconst (-1), 1) := by decide +kernel
theorem dX6_init_31 : decode cX6_init 31 = .ok (.putfield 26, 3) := by decide +kernel
theorem dX6_init_34 : decode cX6_init 34 = .ok (.iconst 0, 1) := by decide +kernel
theorem dX6_init_35 : decode cX6_init 35 = .ok (.istore_n 1, 1) := by decide +kernel
theorem dX6_init_36 : decode cX6_init 36 = .ok (.iload_n 1, 1) := by decide +kernel
theorem dX6_init_37 : decode cX6_init 37 = .ok (.aload_n 0, 1) := by decide +kernel
theorem dX6_init_38 : decode cX6_init 38 = .ok (.getfield 18, 3) := by decide +kernel
theorem dX6_init_41 : decode cX6_init 41 = .ok (.arraylength, 1) := by decide +kernel
theorem dX6_init_42 : decode cX6_init 42 = .ok (.if_icmp .ge 22, 3) := by decide +kernel
theorem dX6_init_45 : decode cX6_init 45 = .ok (.aload_n 0, 1) := by decide +kernel
theorem dX6_init_46 : decode cX6_init 46 = .ok (.getfield 18, 3) := by decide +kernel
theorem dX6_init_49 : decode cX6_init 49 = .ok (.iload_n 1, 1) := by decide +kernel
theorem dX6_init_50 : decode cX6_init 50 = .ok (.new 9, 3) := by decide +kernel
theorem dX6_init_53 : decode cX6_init 53 = .ok (.dup, 1) := by decide +kernel
theorem dX6_init_54 : decode cX6_init 54 = .ok (.invokespecial 11, 3) := by decide +kernel
theorem dX6_init_57 : decode cX6_init 57 = .ok (.aastore, 1) := by decide +kernel
theorem dX6_init_58 : decode cX6_init 58 = .ok (.iinc 1 1, 3) := by decide +kernel
theorem dX6_init_61 : decode cX6_init 61 = .ok (.goto (-25), 3) := by decide +kernel
theorem dX6_init_64 : decode cX6_init 64 = .ok (.return_, 1) := by decide +kernel
theorem mi_X6 : MyI yX6_init cX6_init 2 := ⟨⟨allT1 229 (by decide +kernel) rfl, allT1 8 (by decide +kernel) rfl, allT1 230 (by decide +kernel) rfl⟩, rfl, by decide +kernel, by decide +kernel, by decide +kernel⟩
theorem oi_X6 : Cond.methodLink RX6 3 Lib.objectInit ∈ ALL := allT1 231 (by decide +kernel) rfl
theorem ck_X6_9 : Cond.classLink RX6 9 (clC 7) ∈ ALL := allT1 232 (by decide +kernel) rfl
theorem fi_X6_12 : Fl RX6 12 6 0 := ⟨by decide, by decide, allT1 234 (by decide +kernel) rfl⟩
theorem fi_X6_18 : Fl RX6 18 6 1 := ⟨by decide, by decide, allT1 235 (by decide +kernel) rfl⟩
theorem fi_X6_22 : Fl RX6 22 6 2 := ⟨by decide, by decide, allT1 236 (by decide +kernel) rfl⟩
theorem fi_X6_26 : Fl RX6 26 6 3 := ⟨by decide, by decide, allT1 238 (by decide +kernel) rfl⟩
def vX61 (θ : Th) (V : Nat → Nat → Value) : Nat → Nat → Value := (upC (upC (upC (upR (upC (iX7 θ (upR V 435 (fun k => defaultValue (clty 7 k))) 435) 434 0 (.ref (be θ + 435))) 445 (fun _ => .null)) 434 1 (.ref (be θ + 445))) 434 2 (.int (-1 : Int32))) 434 3 (.int (-1 : Int32)))
theorem hX61 (θ : Th) (V : Nat → Nat → Value) : vX61 θ V 434 1 = .ref (be θ + 445) := by
  simp [vX61, upC, upR, updV, iX7_keep, iX5_keep, iX2_keep, iX8_keep, iX1_keep, iX0_keep, iX3_keep, iX9_keep]
def iX6 (θ : Th) (V : Nat → Nat → Value) : Nat → Nat → Value := (fillV θ (iX7 θ) 7 445 10 446 (vX61 θ V) 7)
set_option maxRecDepth 20000 in
theorem c_X6_init {θ : Th} {l : Launch} {V : Nat → Nat → Value} : CnV θ l yX6_init cX6_init 2 2 81 2735 [.ref (be θ + 434)] V 435 (iX6 θ V) 516 := by
  refine CnV.of (by decide) rfl (Nat.le_of_ble_eq_true rfl) fun p e s m below meth c X N hin hr hlk => ?_
  refine v_aload_n X dX6_init_0 rfl 0 rfl ?_
  refine v_objInit X oi_X6 oiI oiC ⟨by decide, by decide⟩ dX6_init_1 ?_
  refine v_aload_n X dX6_init_4 rfl 0 rfl ?_
  refine v_new (ci := 7) X (by decide) (by decide +kernel) ck_X6_9 in_7 ii_7 (by decide) (by decide) dX6_init_5 ?_
  refine v_dup X dX6_init_8 rfl ?_
  refine v_callN X N (c_X7_init (o := 435) (by decide +kernel) (by decide +kernel) (by decide +kernel) (by decide +kernel) (by decide +kernel) (by decide +kernel) (by decide +kernel) (by decide +kernel) (by decide +kernel) (by decide +kernel) (by decide +kernel) (by decide +kernel) (by decide +kernel) (by decide +kernel) (by decide +kernel) (by decide +kernel) (by decide +kernel) (by decide +kernel) (by decide +kernel)) (by decide +kernel) mi_X7 (Nat.le_of_ble_eq_true rfl) ⟨by decide, by decide⟩ ⟨by decide, by decide⟩ dX6_init_9 ?_
  refine v_put (a := 434) X fi_X6_12 dX6_init_12 (by decide +kernel) (by decide) (Or.inr ⟨rfl, hin, rfl⟩) rfl rfl ?_
  refine v_aload_n X dX6_init_15 rfl 0 rfl ?_
  refine v_bipush X dX6_init_16 (v := (7 : Int32)) (by decide) ?_
  refine v_anew (C := RX7) (k := 19) (N := 7) X (by decide +kernel) (by decide) (by decide +kernel) ck_X6_9 N.2.2.2 (RA19 X.2.1).2 (by decide) (by decide) (by decide) (by decide) (by decide) dX6_init_18 ?_
  refine v_put (a := 434) X fi_X6_18 dX6_init_21 (by decide +kernel) (by decide) (Or.inr ⟨rfl, hin, rfl⟩) rfl rfl ?_
  refine v_aload_n X dX6_init_24 rfl 0 rfl ?_
  refine v_iconst X dX6_init_25 (v := (-1 : Int32)) (by decide) ?_
  refine v_put (a := 434) X fi_X6_22 dX6_init_26 (by decide +kernel) (by decide) (Or.inl rfl) rfl rfl ?_
  refine v_aload_n X dX6_init_29 rfl 0 rfl ?_
  refine v_iconst X dX6_init_30 (v := (-1 : Int32)) (by decide) ?_
  refine v_put (a := 434) X fi_X6_26 dX6_init_31 (by decide +kernel) (by decide) (Or.inl rfl) rfl rfl ?_
  refine v_iconst X dX6_init_34 (v := (0 : Int32)) (by decide) ?_
  refine v_istore_n X dX6_init_35 rfl (by decide) rfl ?_
  refine v_fill (o := 434) (a := 445) (cj := 7) (kA := 19) (M := 7) (w := 10) (base := 446) (E := 64) (mc := 9) (ms := 326) (ini := iX7 θ) (V0 := vX61 θ V) X N (by decide) (by decide +kernel) fi_X6_18 (by decide +kernel) (by decide) (by decide +kernel) (by decide) (by decide) (fun i hi => (st_tab2 i hi).1) (fun V i hi => by
    obtain ⟨t0, ⟨k1, n1⟩, ⟨k2, n2⟩, ⟨k3, n3⟩, ⟨k4, n4⟩, ⟨k5, n5⟩, ⟨k6, n6⟩, ⟨k7, n7⟩, ⟨k8, n8⟩, ⟨k9, n9⟩⟩ := st_tab2 i hi
    exact c_X7_init (o := 446 + 10 * i) t0 k1 n1 k2 n2 k3 n3 k4 n4 k5 n5 k6 n6 k7 n7 k8 n8 k9 n9) (fun V n b h => iX7_keep V n b h) (by decide) (by decide) (by decide) (by decide) ck_X6_9 in_7 ii_7 (by decide +kernel) mi_X7 (RA19 X.2.1).1 dX6_init_36 dX6_init_37 dX6_init_38 dX6_init_41 dX6_init_42 dX6_init_45 dX6_init_46 dX6_init_49 dX6_init_50 dX6_init_53 dX6_init_54 dX6_init_57 dX6_init_58 dX6_init_61 (by decide) (by decide) ⟨by decide, by decide⟩ ⟨by decide, by decide⟩ (hX61 θ V) ?_
  exact v_vret X N hr hlk dX6_init_64 rfl
