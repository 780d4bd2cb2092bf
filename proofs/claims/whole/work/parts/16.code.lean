section Z16
variable {θ : Th} {p : Program} {l : Launch} {e : Env} {s : State} {m : MethodId} {args : Array Value} {below : List Frame} {meth : Method} {c : Code}
theorem dX11_thing_0 : decode cX11_thing 0 = .ok (.aload_n 0, 1) := by decide +kernel
theorem dX11_thing_1 : decode cX11_thing 1 = .ok (.iconst 0, 1) := by decide +kernel
theorem dX11_thing_2 : decode cX11_thing 2 = .ok (.putfield 112, 3) := by decide +kernel
theorem dX11_thing_5 : decode cX11_thing 5 = .ok (.aload_n 0, 1) := by decide +kernel
theorem dX11_thing_6 : decode cX11_thing 6 = .ok (.iload_n 1, 1) := by decide +kernel
theorem dX11_thing_7 : decode cX11_thing 7 = .ok (.invokevirtual 326, 3) := by decide +kernel
theorem dX11_thing_10 : decode cX11_thing 10 = .ok (.ifCond .eq 15, 3) := by decide +kernel
theorem dX11_thing_13 : decode cX11_thing 13 = .ok (.iload_n 2, 1) := by decide +kernel
theorem dX11_thing_14 : decode cX11_thing 14 = .ok (.i2l, 1) := by decide +kernel
theorem dX11_thing_15 : decode cX11_thing 15 = .ok (.lconst 0, 1) := by decide +kernel
theorem dX11_thing_16 : decode cX11_thing 16 = .ok (.ldc2_w 409, 3) := by decide +kernel
theorem dX11_thing_19 : decode cX11_thing 19 = .ok (.invokestatic 233, 3) := by decide +kernel
theorem dX11_thing_22 : decode cX11_thing 22 = .ok (.ifCond .ne 7, 3) := by decide +kernel
theorem dX11_thing_25 : decode cX11_thing 25 = .ok (.ldc_w 411, 3) := by decide +kernel
theorem dX11_thing_28 : decode cX11_thing 28 = .ok (.ireturn, 1) := by decide +kernel
theorem dX11_thing_29 : decode cX11_thing 29 = .ok (.iload_n 2, 1) := by decide +kernel
theorem dX11_thing_30 : decode cX11_thing 30 = .ok (.iconst 3, 1) := by decide +kernel
theorem dX11_thing_31 : decode cX11_thing 31 = .ok (.if_icmp .ge 16, 3) := by decide +kernel
theorem dX11_thing_34 : decode cX11_thing 34 = .ok (.aload_n 0, 1) := by decide +kernel
theorem dX11_thing_35 : decode cX11_thing 35 = .ok (.getfield 43, 3) := by decide +kernel
theorem dX11_thing_38 : decode cX11_thing 38 = .ok (.iconst 3, 1) := by decide +kernel
theorem dX11_thing_39 : decode cX11_thing 39 = .ok (.iload_n 1, 1) := by decide +kernel
theorem dX11_thing_40 : decode cX11_thing 40 = .ok (.imul, 1) := by decide +kernel
theorem dX11_thing_41 : decode cX11_thing 41 = .ok (.iload_n 2, 1) := by decide +kernel
theorem dX11_thing_42 : decode cX11_thing 42 = .ok (.iadd, 1) := by decide +kernel
theorem dX11_thing_43 : decode cX11_thing 43 = .ok (.iaload, 1) := by decide +kernel
theorem dX11_thing_44 : decode cX11_thing 44 = .ok (.goto 16, 3) := by decide +kernel
theorem dX11_thing_47 : decode cX11_thing 47 = .ok (.aload_n 0, 1) := by decide +kernel
theorem dX11_thing_48 : decode cX11_thing 48 = .ok (.getfield 61, 3) := by decide +kernel
theorem dX11_thing_51 : decode cX11_thing 51 = .ok (.iload_n 2, 1) := by decide +kernel
theorem dX11_thing_52 : decode cX11_thing 52 = .ok (.iconst 3, 1) := by decide +kernel
theorem dX11_thing_53 : decode cX11_thing 53 = .ok (.isub, 1) := by decide +kernel
theorem dX11_thing_54 : decode cX11_thing 54 = .ok (.bipush 8, 2) := by decide +kernel
theorem dX11_thing_56 : decode cX11_thing 56 = .ok (.imul, 1) := by decide +kernel
theorem dX11_thing_57 : decode cX11_thing 57 = .ok (.iload_n 1, 1) := by decide +kernel
theorem dX11_thing_58 : decode cX11_thing 58 = .ok (.iadd, 1) := by decide +kernel
theorem dX11_thing_59 : decode cX11_thing 59 = .ok (.iaload, 1) := by decide +kernel
theorem dX11_thing_60 : decode cX11_thing 60 = .ok (.ireturn, 1) := by decide +kernel
def f_Model_thing (σ : Mem) (x1 : Int32) (x2 : Int32) : Option (Int32 × Mem) :=
  (f_Model_isThing (sI σ 565 0 (0 : Int32)) x1).bind fun q1 =>
  if q1 = (0 : Int32) then
    some ((-1000000 : Int32), (sI σ 565 0 (0 : Int32)))
  else
    (f_Model_isIn (sI σ 565 0 (0 : Int32)) ((x2).toInt64) (0 : Int64) (5 : Int64)).bind fun q3 =>
    if q3 = (0 : Int32) then
      some ((-1000000 : Int32), (sI σ 565 0 (0 : Int32)))
    else
      if (3 : Int32) ≤ x2 then
        if inb (((x2 - (3 : Int32)) * (8 : Int32)) + x1) 312 then
          some ((mI (sI σ 565 0 (0 : Int32)) 578 (((x2 - (3 : Int32)) * (8 : Int32)) + x1).toNatClampNeg), (sI σ 565 0 (0 : Int32)))
        else none
      else
        if inb (((3 : Int32) * x1) + x2) 24 then
          some ((mI (sI σ 565 0 (0 : Int32)) 572 (((3 : Int32) * x1) + x2).toNatClampNeg), (sI σ 565 0 (0 : Int32)))
        else none
set_option maxHeartbeats 4000000 in
set_option maxRecDepth 20000 in
theorem g_Model_thing (X : Cx θ p s m args c cX11_thing 3 RX11) (hr : meth.sig.returnType = some .int) (hlk : meth.locks = false)  {σ : Mem} {x1 : Int32} {x2 : Int32} {r : Int32 × Mem}  (h : f_Model_thing σ x1 x2 = some r) : GB θ p l e 1 s m args below meth c 3 (some (.int r.1), r.2) 0 [(0, .ref (be θ + 565)), (1, .int x1), (2, .int x2)] [] σ := by
  unfold f_Model_thing at h
  refine g_aload_n X dX11_thing_0 rfl 0 rfl ?_
  refine g_iconst X dX11_thing_1 (v := (0 : Int32)) ic_0 ?_
  refine g_putI X fl_RX11_112 dX11_thing_2 kd_565 rfl rfl rfl ?_
  refine g_aload_n X dX11_thing_5 rfl 0 rfl ?_
  refine g_iload_n X dX11_thing_6 rfl 1 rfl ?_
  obtain ⟨q1, hq1, h⟩ := Option.bind_eq_some_iff.mp h
  refine g_cV X (c_Model_isThing  hq1) lk_RX11_326 my_X11_isThing (a := 565) (ci := 11) kd_565 (by decide) rfl (As := [.int x1]) (rest := []) rfl rfl (Nat.le_of_ble_eq_true rfl) ⟨(Nat.le_of_ble_eq_true rfl), (Nat.le_of_ble_eq_true rfl)⟩ ⟨(Nat.le_of_ble_eq_true rfl), (Nat.le_of_ble_eq_true rfl)⟩ dX11_thing_7 (st' := [.int q1]) (σ' := (sI σ 565 0 (0 : Int32))) rfl rfl ?_
  refine g_if_eq (tgt := 25) X dX11_thing_10 (by decide) (fun c2 => ?_) (fun c2 => ?_)
  · replace h := (if_pos c2).symm.trans h
    refine g_ldcw X cst_RX11_411 dX11_thing_25 ?_
    exact g_iret X hr hlk dX11_thing_28 (by cases h; rfl)
  · replace h := (if_neg c2).symm.trans h
    refine g_iload_n X dX11_thing_13 rfl 2 rfl ?_
    refine g_i2l X dX11_thing_14 (v := ((x2).toInt64)) rfl ?_
    refine g_lconst X dX11_thing_15 (v := (0 : Int64)) rfl ?_
    refine g_ldc2 X cst_RX11_409 dX11_thing_16 ?_
    obtain ⟨q3, hq3, h⟩ := Option.bind_eq_some_iff.mp h
    refine g_cS X (c_Model_isIn  hq3) lk_RX11_233 my_X11_isIn (As := [.long ((x2).toInt64), .long (0 : Int64), .long (5 : Int64)]) (rest := []) rfl rfl (Nat.le_of_ble_eq_true rfl) ⟨(Nat.le_of_ble_eq_true rfl), (Nat.le_of_ble_eq_true rfl)⟩ ⟨(Nat.le_of_ble_eq_true rfl), (Nat.le_of_ble_eq_true rfl)⟩ dX11_thing_19 (st' := [.int q3]) (σ' := (sI σ 565 0 (0 : Int32))) rfl rfl ?_
    refine g_if_ne (tgt := 29) X dX11_thing_22 (by decide) (fun c4 => ?_) (fun c4 => ?_)
    · replace h := (if_neg c4).symm.trans h
      refine g_iload_n X dX11_thing_29 rfl 2 rfl ?_
      refine g_iconst X dX11_thing_30 (v := (3 : Int32)) ic_3 ?_
      refine g_icmp_ge (tgt := 47) X dX11_thing_31 (by decide) (fun c5 => ?_) (fun c5 => ?_)
      · replace h := (if_pos c5).symm.trans h
        refine g_aload_n X dX11_thing_47 rfl 0 rfl ?_
        refine g_get X fl_RX11_61 dX11_thing_48 kd_565 (v := .ref (be θ + 578)) rfl ?_
        refine g_iload_n X dX11_thing_51 rfl 2 rfl ?_
        refine g_iconst X dX11_thing_52 (v := (3 : Int32)) ic_3 ?_
        refine g_isub X dX11_thing_53 ?_
        refine g_bipush X dX11_thing_54 (v := (8 : Int32)) bp_8 ?_
        refine g_imul X dX11_thing_56 ?_
        refine g_iload_n X dX11_thing_57 rfl 1 rfl ?_
        refine g_iadd X dX11_thing_58 ?_
        obtain ⟨g6, h⟩ := ite_some h
        refine g_iald X kd_578 ln_578 (inb_in g6) dX11_thing_59 ?_
        exact g_iret X hr hlk dX11_thing_60 (by cases h; rfl)
      · replace h := (if_neg c5).symm.trans h
        refine g_aload_n X dX11_thing_34 rfl 0 rfl ?_
        refine g_get X fl_RX11_43 dX11_thing_35 kd_565 (v := .ref (be θ + 572)) rfl ?_
        refine g_iconst X dX11_thing_38 (v := (3 : Int32)) ic_3 ?_
        refine g_iload_n X dX11_thing_39 rfl 1 rfl ?_
        refine g_imul X dX11_thing_40 ?_
        refine g_iload_n X dX11_thing_41 rfl 2 rfl ?_
        refine g_iadd X dX11_thing_42 ?_
        obtain ⟨g7, h⟩ := ite_some h
        refine g_iald X kd_572 ln_572 (inb_in g7) dX11_thing_43 ?_
        refine g_goto (tgt := 60) X dX11_thing_44 (by decide) ?_
        exact g_iret X hr hlk dX11_thing_60 (by cases h; rfl)
    · replace h := (if_pos c4).symm.trans h
      refine g_ldcw X cst_RX11_411 dX11_thing_25 ?_
      exact g_iret X hr hlk dX11_thing_28 (by cases h; rfl)
set_option maxHeartbeats 4000000 in
set_option maxRecDepth 20000 in
theorem c_Model_thing {θ : Th} {l : Launch} {σ : Mem} {x1 : Int32} {x2 : Int32} {r : Int32 × Mem}  (h : f_Model_thing σ x1 x2 = some r) : Cn θ l yX11_thing cX11_thing 3 (some .int) 1 0 0 [.ref (be θ + 565), .int x1, .int x2] σ (some (.int r.1), r.2) :=
  Cn.of (by decide) (Nat.le_of_ble_eq_true rfl) (fun p e s m below meth c X hr hlk => g_Model_thing X hr hlk  h)
theorem dX11_billsOf_0 : decode cX11_billsOf 0 = .ok (.iconst 0, 1) := by decide +kernel
theorem dX11_billsOf_1 : decode cX11_billsOf 1 = .ok (.istore_n 2, 1) := by decide +kernel
theorem dX11_billsOf_2 : decode cX11_billsOf 2 = .ok (.iconst 0, 1) := by decide +kernel
theorem dX11_billsOf_3 : decode cX11_billsOf 3 = .ok (.istore_n 3, 1) := by decide +kernel
theorem dX11_billsOf_4 : decode cX11_billsOf 4 = .ok (.iload_n 3, 1) := by decide +kernel
theorem dX11_billsOf_5 : decode cX11_billsOf 5 = .ok (.aload_n 0, 1) := by decide +kernel
theorem dX11_billsOf_6 : decode cX11_billsOf 6 = .ok (.getfield 61, 3) := by decide +kernel
theorem dX11_billsOf_9 : decode cX11_billsOf 9 = .ok (.bipush 126, 2) := by decide +kernel
theorem dX11_billsOf_11 : decode cX11_billsOf 11 = .ok (.iaload, 1) := by decide +kernel
theorem dX11_billsOf_12 : decode cX11_billsOf 12 = .ok (.if_icmp .ge 32, 3) := by decide +kernel
theorem dX11_billsOf_15 : decode cX11_billsOf 15 = .ok (.iload_n 2, 1) := by decide +kernel
theorem dX11_billsOf_16 : decode cX11_billsOf 16 = .ok (.aload_n 0, 1) := by decide +kernel
theorem dX11_billsOf_17 : decode cX11_billsOf 17 = .ok (.getfield 61, 3) := by decide +kernel
theorem dX11_billsOf_20 : decode cX11_billsOf 20 = .ok (.bipush 30, 2) := by decide +kernel
theorem dX11_billsOf_22 : decode cX11_billsOf 22 = .ok (.iconst 4, 1) := by decide +kernel
theorem dX11_billsOf_23 : decode cX11_billsOf 23 = .ok (.iload_n 3, 1) := by decide +kernel
theorem dX11_billsOf_24 : decode cX11_billsOf 24 = .ok (.imul, 1) := by decide +kernel
theorem dX11_billsOf_25 : decode cX11_billsOf 25 = .ok (.iadd, 1) := by decide +kernel
theorem dX11_billsOf_26 : decode cX11_billsOf 26 = .ok (.iaload, 1) := by decide +kernel
theorem dX11_billsOf_27 : decode cX11_billsOf 27 = .ok (.iload_n 1, 1) := by decide +kernel
theorem dX11_billsOf_28 : decode cX11_billsOf 28 = .ok (.if_icmp .ne 7, 3) := by decide +kernel
theorem dX11_billsOf_31 : decode cX11_billsOf 31 = .ok (.iconst 1, 1) := by decide +kernel
theorem dX11_billsOf_32 : decode cX11_billsOf 32 = .ok (.goto 4, 3) := by decide +kernel
theorem dX11_billsOf_35 : decode cX11_billsOf 35 = .ok (.iconst 0, 1) := by decide +kernel
theorem dX11_billsOf_36 : decode cX11_billsOf 36 = .ok (.iadd, 1) := by decide +kernel
theorem dX11_billsOf_37 : decode cX11_billsOf 37 = .ok (.istore_n 2, 1) := by decide +kernel
theorem dX11_billsOf_38 : decode cX11_billsOf 38 = .ok (.iinc 3 1, 3) := by decide +kernel
theorem dX11_billsOf_41 : decode cX11_billsOf 41 = .ok (.goto (-37), 3) := by decide +kernel
theorem dX11_billsOf_44 : decode cX11_billsOf 44 = .ok (.iload_n 2, 1) := by decide +kernel
theorem dX11_billsOf_45 : decode cX11_billsOf 45 = .ok (.ireturn, 1) := by decide +kernel
def f_Model_billsOf_L4 (σ : Mem) (x1 : Int32) (a : Int32 × Int32) : Option ((Int32 × Int32) ⊕ (Int32)) :=
  @Prod.casesOn (Int32) (Int32) (fun _ => Option ((Int32 × Int32) ⊕ (Int32))) a fun z2 z3 =>
  if (mI σ 578 (126 : Int32).toNatClampNeg) ≤ z3 then
    some (.inr z2)
  else
    if inb ((30 : Int32) + ((4 : Int32) * z3)) 312 then
      if (mI σ 578 ((30 : Int32) + ((4 : Int32) * z3)).toNatClampNeg) = x1 then
        some (.inl ((z2 + (1 : Int32)), (z3 + (1 : Int32))))
      else
        some (.inl ((z2 + (0 : Int32)), (z3 + (1 : Int32))))
    else none
def f_Model_billsOf (σ : Mem) (x1 : Int32) : Option (Int32) :=
  loopF (f_Model_billsOf_L4 σ x1) FU ((0 : Int32), (0 : Int32))
set_option maxHeartbeats 4000000 in
set_option maxRecDepth 20000 in
theorem gs_Model_billsOf_L4 (X : Cx θ p s m args c cX11_billsOf 4 RX11) (hr : meth.sig.returnType = some .int) (hlk : meth.locks = false)  {σ : Mem} {x1 : Int32} {r : Int32}  (z2 : Int32) (z3 : Int32) (x : (Int32 × Int32) ⊕ (Int32)) (h : f_Model_billsOf_L4 σ x1 (z2, z3) = some x) (hk : Sum.elim (fun a => @Prod.casesOn (Int32) (Int32) (fun _ => Prop) a fun z2 z3 => GB θ p l e 0 s m args below meth c 4 (some (.int r), σ) 4 [(0, .ref (be θ + 565)), (1, .int x1), (2, .int z2), (3, .int z3)] [] σ) (fun b => b = r) x) : GB θ p l e 0 s m args below meth c 4 (some (.int r), σ) 4 [(0, .ref (be θ + 565)), (1, .int x1), (2, .int z2), (3, .int z3)] [] σ := by
  unfold f_Model_billsOf_L4 at h
  dsimp only at h
  refine g_iload_n X dX11_billsOf_4 rfl 3 rfl ?_
  refine g_aload_n X dX11_billsOf_5 rfl 0 rfl ?_
  refine g_get X fl_RX11_61 dX11_billsOf_6 kd_565 (v := .ref (be θ + 578)) rfl ?_
  refine g_bipush X dX11_billsOf_9 (v := (126 : Int32)) bp_126 ?_
  refine g_iald X kd_578 ln_578 (inb_in (show inb (126 : Int32) 312 = true by decide)) dX11_billsOf_11 ?_
  refine g_icmp_ge (tgt := 44) X dX11_billsOf_12 (by decide) (fun c1 => ?_) (fun c1 => ?_)
  · replace h := (if_pos c1).symm.trans h
    refine g_iload_n X dX11_billsOf_44 rfl 2 rfl ?_
    have hk := inr_hk h hk
    have hk : z2 = r := hk
    subst hk
    exact g_iret X hr hlk dX11_billsOf_45 rfl
  · replace h := (if_neg c1).symm.trans h
    refine g_iload_n X dX11_billsOf_15 rfl 2 rfl ?_
    refine g_aload_n X dX11_billsOf_16 rfl 0 rfl ?_
    refine g_get X fl_RX11_61 dX11_billsOf_17 kd_565 (v := .ref (be θ + 578)) rfl ?_
    refine g_bipush X dX11_billsOf_20 (v := (30 : Int32)) bp_30 ?_
    refine g_iconst X dX11_billsOf_22 (v := (4 : Int32)) ic_4 ?_
    refine g_iload_n X dX11_billsOf_23 rfl 3 rfl ?_
    refine g_imul X dX11_billsOf_24 ?_
    refine g_iadd X dX11_billsOf_25 ?_
    obtain ⟨g2, h⟩ := ite_some h
    refine g_iald X kd_578 ln_578 (inb_in g2) dX11_billsOf_26 ?_
    refine g_iload_n X dX11_billsOf_27 rfl 1 rfl ?_
    refine g_icmp_ne (tgt := 35) X dX11_billsOf_28 (by decide) (fun c3 => ?_) (fun c3 => ?_)
    · replace h := (if_neg c3).symm.trans h
      refine g_iconst X dX11_billsOf_35 (v := (0 : Int32)) ic_0 ?_
      refine g_iadd X dX11_billsOf_36 ?_
      refine g_istore_n X dX11_billsOf_37 rfl (by decide) (lv' := [(2, .int (z2 + (0 : Int32))), (0, .ref (be θ + 565)), (1, .int x1), (3, .int z3)]) rfl ?_
      refine g_iinc X dX11_billsOf_38 (kq := 3) rfl (congrArg (HAdd.hAdd _) ic_1) (by decide) (lv' := [(3, .int (z3 + (1 : Int32))), (2, .int (z2 + (0 : Int32))), (0, .ref (be θ + 565)), (1, .int x1)]) rfl ?_
      refine g_goto (tgt := 4) X dX11_billsOf_41 (by decide) ?_
      have hk := inl_hk h hk
      exact g_sub (lv' := [(0, .ref (be θ + 565)), (1, .int x1), (2, .int (z2 + (0 : Int32))), (3, .int (z3 + (1 : Int32)))]) [2, 3, 1, 0] rfl hk
    · replace h := (if_pos c3).symm.trans h
      refine g_iconst X dX11_billsOf_31 (v := (1 : Int32)) ic_1 ?_
      refine g_goto (tgt := 36) X dX11_billsOf_32 (by decide) ?_
      refine g_iadd X dX11_billsOf_36 ?_
      refine g_istore_n X dX11_billsOf_37 rfl (by decide) (lv' := [(2, .int (z2 + (1 : Int32))), (0, .ref (be θ + 565)), (1, .int x1), (3, .int z3)]) rfl ?_
      refine g_iinc X dX11_billsOf_38 (kq := 3) rfl (congrArg (HAdd.hAdd _) ic_1) (by decide) (lv' := [(3, .int (z3 + (1 : Int32))), (2, .int (z2 + (1 : Int32))), (0, .ref (be θ + 565)), (1, .int x1)]) rfl ?_
      refine g_goto (tgt := 4) X dX11_billsOf_41 (by decide) ?_
      have hk := inl_hk h hk
      exact g_sub (lv' := [(0, .ref (be θ + 565)), (1, .int x1), (2, .int (z2 + (1 : Int32))), (3, .int (z3 + (1 : Int32)))]) [2, 3, 1, 0] rfl hk
set_option maxHeartbeats 4000000 in
set_option maxRecDepth 20000 in
theorem gl_Model_billsOf_L4 (X : Cx θ p s m args c cX11_billsOf 4 RX11) (hr : meth.sig.returnType = some .int) (hlk : meth.locks = false)  {σ : Mem} {x1 : Int32} {r : Int32}  (n : Nat) (a : Int32 × Int32) (b : Int32) (h : loopF (f_Model_billsOf_L4 σ x1) n a = some b) (hk : (fun b => b = r) b) : (fun a => @Prod.casesOn (Int32) (Int32) (fun _ => Prop) a fun z2 z3 => GB θ p l e 0 s m args below meth c 4 (some (.int r), σ) 4 [(0, .ref (be θ + 565)), (1, .int x1), (2, .int z2), (3, .int z3)] [] σ) a :=
  loopF_by (P := (fun a => @Prod.casesOn (Int32) (Int32) (fun _ => Prop) a fun z2 z3 => GB θ p l e 0 s m args below meth c 4 (some (.int r), σ) 4 [(0, .ref (be θ + 565)), (1, .int x1), (2, .int z2), (3, .int z3)] [] σ)) (K := (fun b => b = r)) (fun a x h hk => by obtain ⟨z2, z3⟩ := a; exact gs_Model_billsOf_L4 X hr hlk   z2 z3 x h hk) n a b h hk
set_option maxHeartbeats 4000000 in
set_option maxRecDepth 20000 in
theorem g_Model_billsOf (X : Cx θ p s m args c cX11_billsOf 4 RX11) (hr : meth.sig.returnType = some .int) (hlk : meth.locks = false)  {σ : Mem} {x1 : Int32} {r : Int32}  (h : f_Model_billsOf σ x1 = some r) : GB θ p l e 0 s m args below meth c 4 (some (.int r), σ) 0 [(0, .ref (be θ + 565)), (1, .int x1)] [] σ := by
  unfold f_Model_billsOf at h
  refine g_iconst X dX11_billsOf_0 (v := (0 : Int32)) ic_0 ?_
  refine g_istore_n X dX11_billsOf_1 rfl (by decide) (lv' := [(2, .int (0 : Int32)), (0, .ref (be θ + 565)), (1, .int x1)]) rfl ?_
  refine g_iconst X dX11_billsOf_2 (v := (0 : Int32)) ic_0 ?_
  refine g_istore_n X dX11_billsOf_3 rfl (by decide) (lv' := [(3, .int (0 : Int32)), (2, .int (0 : Int32)), (0, .ref (be θ + 565)), (1, .int x1)]) rfl ?_
  exact g_sub (lv' := [(0, .ref (be θ + 565)), (1, .int x1), (2, .int (0 : Int32)), (3, .int (0 : Int32))]) [2, 3, 1, 0] rfl (gl_Model_billsOf_L4 X hr hlk    FU _ _ h rfl)
set_option maxHeartbeats 4000000 in
set_option maxRecDepth 20000 in
theorem c_Model_billsOf {θ : Th} {l : Launch} {σ : Mem} {x1 : Int32} {r : Int32}  (h : f_Model_billsOf σ x1 = some r) : Cn θ l yX11_billsOf cX11_billsOf 4 (some .int) 0 0 0 [.ref (be θ + 565), .int x1] σ (some (.int r), σ) :=
  Cn.of (by decide) (Nat.le_of_ble_eq_true rfl) (fun p e s m below meth c X hr hlk => g_Model_billsOf X hr hlk  h)
theorem dX11_buyer_0 : decode cX11_buyer 0 = .ok (.aload_n 0, 1) := by decide +kernel
theorem dX11_buyer_1 : decode cX11_buyer 1 = .ok (.aload_n 0, 1) := by decide +kernel
theorem dX11_buyer_2 : decode cX11_buyer 2 = .ok (.iload_n 1, 1) := by decide +kernel
theorem dX11_buyer_3 : decode cX11_buyer 3 = .ok (.invokevirtual 412, 3) := by decide +kernel
theorem dX11_buyer_6 : decode cX11_buyer 6 = .ok (.ifCond .eq 19, 3) := by decide +kernel
theorem dX11_buyer_9 : decode cX11_buyer 9 = .ok (.iload_n 2, 1) := by decide +kernel
theorem dX11_buyer_10 : decode cX11_buyer 10 = .ok (.i2l, 1) := by decide +kernel
theorem dX11_buyer_11 : decode cX11_buyer 11 = .ok (.lconst 0, 1) := by decide +kernel
theorem dX11_buyer_12 : decode cX11_buyer 12 = .ok (.ldc2_w 415, 3) := by decide +kernel
theorem dX11_buyer_15 : decode cX11_buyer 15 = .ok (.invokestatic 233, 3) := by decide +kernel
theorem dX11_buyer_18 : decode cX11_buyer 18 = .ok (.ifCond .eq 7, 3) := by decide +kernel
theorem dX11_buyer_21 : decode cX11_buyer 21 = .ok (.iconst 0, 1) := by decide +kernel
theorem dX11_buyer_22 : decode cX11_buyer 22 = .ok (.goto 4, 3) := by decide +kernel
theorem dX11_buyer_25 : decode cX11_buyer 25 = .ok (.iconst 1, 1) := by decide +kernel
theorem dX11_buyer_26 : decode cX11_buyer 26 = .ok (.putfield 112, 3) := by decide +kernel
theorem dX11_buyer_29 : decode cX11_buyer 29 = .ok (.aload_n 0, 1) := by decide +kernel
theorem dX11_buyer_30 : decode cX11_buyer 30 = .ok (.getfield 112, 3) := by decide +kernel
theorem dX11_buyer_33 : decode cX11_buyer 33 = .ok (.ifCond .le 5, 3) := by decide +kernel
theorem dX11_buyer_36 : decode cX11_buyer 36 = .ok (.iconst 0, 1) := by decide +kernel
theorem dX11_buyer_37 : decode cX11_buyer 37 = .ok (.ireturn, 1) := by decide +kernel
theorem dX11_buyer_38 : decode cX11_buyer 38 = .ok (.iload_n 2, 1) := by decide +kernel
theorem dX11_buyer_39 : decode cX11_buyer 39 = .ok (.tableswitch 76 0 6 #[41, 76, 76, 76, 51, 61, 70], 41) := by decide +kernel
theorem dX11_buyer_80 : decode cX11_buyer 80 = .ok (.aload_n 0, 1) := by decide +kernel
theorem dX11_buyer_81 : decode cX11_buyer 81 = .ok (.getfield 61, 3) := by decide +kernel
theorem dX11_buyer_84 : decode cX11_buyer 84 = .ok (.bipush 24, 2) := by decide +kernel
theorem dX11_buyer_86 : decode cX11_buyer 86 = .ok (.iload_n 1, 1) := by decide +kernel
theorem dX11_buyer_87 : decode cX11_buyer 87 = .ok (.iadd, 1) := by decide +kernel
theorem dX11_buyer_88 : decode cX11_buyer 88 = .ok (.iaload, 1) := by decide +kernel
theorem dX11_buyer_89 : decode cX11_buyer 89 = .ok (.ireturn, 1) := by decide +kernel
theorem dX11_buyer_90 : decode cX11_buyer 90 = .ok (.aload_n 0, 1) := by decide +kernel
theorem dX11_buyer_91 : decode cX11_buyer 91 = .ok (.aload_n 0, 1) := by decide +kernel
theorem dX11_buyer_92 : decode cX11_buyer 92 = .ok (.getfield 61, 3) := by decide +kernel
theorem dX11_buyer_95 : decode cX11_buyer 95 = .ok (.iload_n 1, 1) := by decide +kernel
theorem dX11_buyer_96 : decode cX11_buyer 96 = .ok (.invokevirtual 361, 3) := by decide +kernel
theorem dX11_buyer_99 : decode cX11_buyer 99 = .ok (.ireturn, 1) := by decide +kernel
theorem dX11_buyer_100 : decode cX11_buyer 100 = .ok (.aload_n 0, 1) := by decide +kernel
theorem dX11_buyer_101 : decode cX11_buyer 101 = .ok (.getfield 61, 3) := by decide +kernel
theorem dX11_buyer_104 : decode cX11_buyer 104 = .ok (.iload_n 1, 1) := by decide +kernel
theorem dX11_buyer_105 : decode cX11_buyer 105 = .ok (.invokestatic 382, 3) := by decide +kernel
theorem dX11_buyer_108 : decode cX11_buyer 108 = .ok (.ireturn, 1) := by decide +kernel
theorem dX11_buyer_109 : decode cX11_buyer 109 = .ok (.aload_n 0, 1) := by decide +kernel
theorem dX11_buyer_110 : decode cX11_buyer 110 = .ok (.iload_n 1, 1) := by decide +kernel
theorem dX11_buyer_111 : decode cX11_buyer 111 = .ok (.invokevirtual 417, 3) := by decide +kernel
theorem dX11_buyer_114 : decode cX11_buyer 114 = .ok (.ireturn, 1) := by decide +kernel
theorem dX11_buyer_115 : decode cX11_buyer 115 = .ok (.aload_n 0, 1) := by decide +kernel
theorem dX11_buyer_116 : decode cX11_buyer 116 = .ok (.getfield 49, 3) := by decide +kernel
theorem dX11_buyer_119 : decode cX11_buyer 119 = .ok (.iconst 4, 1) := by decide +kernel
theorem dX11_buyer_120 : decode cX11_buyer 120 = .ok (.iload_n 1, 1) := by decide +kernel
theorem dX11_buyer_121 : decode cX11_buyer 121 = .ok (.imul, 1) := by decide +kernel
theorem dX11_buyer_122 : decode cX11_buyer 122 = .ok (.iload_n 2, 1) := by decide +kernel
theorem dX11_buyer_123 : decode cX11_buyer 123 = .ok (.iadd, 1) := by decide +kernel
theorem dX11_buyer_124 : decode cX11_buyer 124 = .ok (.iaload, 1) := by decide +kernel
theorem dX11_buyer_125 : decode cX11_buyer 125 = .ok (.ireturn, 1) := by decide +kernel
def f_Model_buyer (σ : Mem) (x1 : Int32) (x2 : Int32) : Option (Int32 × Mem) :=
  (f_Model_isBuyer σ x1).bind fun q1 =>
  if q1 = (0 : Int32) then
    if (mI (sI σ 565 0 (1 : Int32)) 565 0) ≤ (0 : Int32) then
      if x2 = (0 : Int32) then
        if inb ((24 : Int32) + x1) 312 then
          some ((mI (sI σ 565 0 (1 : Int32)) 578 ((24 : Int32) + x1).toNatClampNeg), (sI σ 565 0 (1 : Int32)))
        else none
      else
      if x2 = (4 : Int32) then
        (f_Model_holds (sI σ 565 0 (1 : Int32)) 578 x1).bind fun q7 =>
        some (q7, (sI σ 565 0 (1 : Int32)))
      else
      if x2 = (5 : Int32) then
        (f_Model_dueOf (sI σ 565 0 (1 : Int32)) 578 x1).bind fun q9 =>
        some (q9, (sI σ 565 0 (1 : Int32)))
      else
      if x2 = (6 : Int32) then
        (f_Model_billsOf (sI σ 565 0 (1 : Int32)) x1).bind fun q11 =>
        some (q11, (sI σ 565 0 (1 : Int32)))
      else
      if inb (((4 : Int32) * x1) + x2) 24 then
        some ((mI (sI σ 565 0 (1 : Int32)) 574 (((4 : Int32) * x1) + x2).toNatClampNeg), (sI σ 565 0 (1 : Int32)))
      else none
    else
      some ((0 : Int32), (sI σ 565 0 (1 : Int32)))
  else
    (f_Model_isIn σ ((x2).toInt64) (0 : Int64) (6 : Int64)).bind fun q14 =>
    if q14 = (0 : Int32) then
      if (mI (sI σ 565 0 (1 : Int32)) 565 0) ≤ (0 : Int32) then
        if x2 = (0 : Int32) then
          if inb ((24 : Int32) + x1) 312 then
            some ((mI (sI σ 565 0 (1 : Int32)) 578 ((24 : Int32) + x1).toNatClampNeg), (sI σ 565 0 (1 : Int32)))
          else none
        else
        if x2 = (4 : Int32) then
          (f_Model_holds (sI σ 565 0 (1 : Int32)) 578 x1).bind fun q20 =>
          some (q20, (sI σ 565 0 (1 : Int32)))
        else
        if x2 = (5 : Int32) then
          (f_Model_dueOf (sI σ 565 0 (1 : Int32)) 578 x1).bind fun q22 =>
          some (q22, (sI σ 565 0 (1 : Int32)))
        else
        if x2 = (6 : Int32) then
          (f_Model_billsOf (sI σ 565 0 (1 : Int32)) x1).bind fun q24 =>
          some (q24, (sI σ 565 0 (1 : Int32)))
        else
        if inb (((4 : Int32) * x1) + x2) 24 then
          some ((mI (sI σ 565 0 (1 : Int32)) 574 (((4 : Int32) * x1) + x2).toNatClampNeg), (sI σ 565 0 (1 : Int32)))
        else none
      else
        some ((0 : Int32), (sI σ 565 0 (1 : Int32)))
    else
      if (mI (sI σ 565 0 (0 : Int32)) 565 0) ≤ (0 : Int32) then
        if x2 = (0 : Int32) then
          if inb ((24 : Int32) + x1) 312 then
            some ((mI (sI σ 565 0 (0 : Int32)) 578 ((24 : Int32) + x1).toNatClampNeg), (sI σ 565 0 (0 : Int32)))
          else none
        else
        if x2 = (4 : Int32) then
          (f_Model_holds (sI σ 565 0 (0 : Int32)) 578 x1).bind fun q31 =>
          some (q31, (sI σ 565 0 (0 : Int32)))
        else
        if x2 = (5 : Int32) then
          (f_Model_dueOf (sI σ 565 0 (0 : Int32)) 578 x1).bind fun q33 =>
          some (q33, (sI σ 565 0 (0 : Int32)))
        else
        if x2 = (6 : Int32) then
          (f_Model_billsOf (sI σ 565 0 (0 : Int32)) x1).bind fun q35 =>
          some (q35, (sI σ 565 0 (0 : Int32)))
        else
        if inb (((4 : Int32) * x1) + x2) 24 then
          some ((mI (sI σ 565 0 (0 : Int32)) 574 (((4 : Int32) * x1) + x2).toNatClampNeg), (sI σ 565 0 (0 : Int32)))
        else none
      else
        some ((0 : Int32), (sI σ 565 0 (0 : Int32)))
set_option maxHeartbeats 4000000 in
set_option maxRecDepth 20000 in
theorem g_Model_buyer (X : Cx θ p s m args c cX11_buyer 3 RX11) (hr : meth.sig.returnType = some .int) (hlk : meth.locks = false)  {σ : Mem} {x1 : Int32} {x2 : Int32} {r : Int32 × Mem}  (h : f_Model_buyer σ x1 x2 = some r) : GB θ p l e 1 s m args below meth c 3 (some (.int r.1), r.2) 0 [(0, .ref (be θ + 565)), (1, .int x1), (2, .int x2)] [] σ := by
  unfold f_Model_buyer at h
  refine g_aload_n X dX11_buyer_0 rfl 0 rfl ?_
  refine g_aload_n X dX11_buyer_1 rfl 0 rfl ?_
  refine g_iload_n X dX11_buyer_2 rfl 1 rfl ?_
  obtain ⟨q1, hq1, h⟩ := Option.bind_eq_some_iff.mp h
  refine g_cV X (c_Model_isBuyer  hq1) lk_RX11_412 my_X11_isBuyer (a := 565) (ci := 11) kd_565 (by decide) rfl (As := [.int x1]) (rest := [.ref (be θ + 565)]) rfl rfl (Nat.le_of_ble_eq_true rfl) ⟨(Nat.le_of_ble_eq_true rfl), (Nat.le_of_ble_eq_true rfl)⟩ ⟨(Nat.le_of_ble_eq_true rfl), (Nat.le_of_ble_eq_true rfl)⟩ dX11_buyer_3 (st' := [.int q1, .ref (be θ + 565)]) (σ' := σ) rfl rfl ?_
  refine g_if_eq (tgt := 25) X dX11_buyer_6 (by decide) (fun c2 => ?_) (fun c2 => ?_)
  · replace h := (if_pos c2).symm.trans h
    refine g_iconst X dX11_buyer_25 (v := (1 : Int32)) ic_1 ?_
    refine g_putI X fl_RX11_112 dX11_buyer_26 kd_565 rfl rfl rfl ?_
    refine g_aload_n X dX11_buyer_29 rfl 0 rfl ?_
    refine g_get X fl_RX11_112 dX11_buyer_30 kd_565 (v := .int (mI (sI σ 565 0 (1 : Int32)) 565 0)) rfl ?_
    refine g_if_le (tgt := 38) X dX11_buyer_33 (by decide) (fun c3 => ?_) (fun c3 => ?_)
    · replace h := (if_pos c3).symm.trans h
      refine g_iload_n X dX11_buyer_38 rfl 2 rfl ?_
      by_cases c4 : x2 = (0 : Int32)
      · replace h := (if_pos c4).symm.trans h
        refine g_tableIn (tgt := 80) (off := 41) X dX11_buyer_39 (by rw [c4]; decide) (by rw [c4]; decide) (by rw [c4]; rfl) (by decide) ?_
        refine g_aload_n X dX11_buyer_80 rfl 0 rfl ?_
        refine g_get X fl_RX11_61 dX11_buyer_81 kd_565 (v := .ref (be θ + 578)) rfl ?_
        refine g_bipush X dX11_buyer_84 (v := (24 : Int32)) bp_24 ?_
        refine g_iload_n X dX11_buyer_86 rfl 1 rfl ?_
        refine g_iadd X dX11_buyer_87 ?_
        obtain ⟨g5, h⟩ := ite_some h
        refine g_iald X kd_578 ln_578 (inb_in g5) dX11_buyer_88 ?_
        exact g_iret X hr hlk dX11_buyer_89 (by cases h; rfl)
      replace h := (if_neg c4).symm.trans h
      by_cases c6 : x2 = (4 : Int32)
      · replace h := (if_pos c6).symm.trans h
        refine g_tableIn (tgt := 90) (off := 51) X dX11_buyer_39 (by rw [c6]; decide) (by rw [c6]; decide) (by rw [c6]; rfl) (by decide) ?_
        refine g_aload_n X dX11_buyer_90 rfl 0 rfl ?_
        refine g_aload_n X dX11_buyer_91 rfl 0 rfl ?_
        refine g_get X fl_RX11_61 dX11_buyer_92 kd_565 (v := .ref (be θ + 578)) rfl ?_
        refine g_iload_n X dX11_buyer_95 rfl 1 rfl ?_
        obtain ⟨q7, hq7, h⟩ := Option.bind_eq_some_iff.mp h
        refine g_cV X (c_Model_holds kd_578 hq7) lk_RX11_361 my_X11_holds (a := 565) (ci := 11) kd_565 (by decide) rfl (As := [.ref (be θ + 578), .int x1]) (rest := []) rfl rfl (Nat.le_of_ble_eq_true rfl) ⟨(Nat.le_of_ble_eq_true rfl), (Nat.le_of_ble_eq_true rfl)⟩ ⟨(Nat.le_of_ble_eq_true rfl), (Nat.le_of_ble_eq_true rfl)⟩ dX11_buyer_96 (st' := [.int q7]) (σ' := (sI σ 565 0 (1 : Int32))) rfl rfl ?_
        exact g_iret X hr hlk dX11_buyer_99 (by cases h; rfl)
      replace h := (if_neg c6).symm.trans h
      by_cases c8 : x2 = (5 : Int32)
      · replace h := (if_pos c8).symm.trans h
        refine g_tableIn (tgt := 100) (off := 61) X dX11_buyer_39 (by rw [c8]; decide) (by rw [c8]; decide) (by rw [c8]; rfl) (by decide) ?_
        refine g_aload_n X dX11_buyer_100 rfl 0 rfl ?_
        refine g_get X fl_RX11_61 dX11_buyer_101 kd_565 (v := .ref (be θ + 578)) rfl ?_
        refine g_iload_n X dX11_buyer_104 rfl 1 rfl ?_
        obtain ⟨q9, hq9, h⟩ := Option.bind_eq_some_iff.mp h
        refine g_cS X (c_Model_dueOf kd_578 hq9) lk_RX11_382 my_X11_dueOf (As := [.ref (be θ + 578), .int x1]) (rest := []) rfl rfl (Nat.le_of_ble_eq_true rfl) ⟨(Nat.le_of_ble_eq_true rfl), (Nat.le_of_ble_eq_true rfl)⟩ ⟨(Nat.le_of_ble_eq_true rfl), (Nat.le_of_ble_eq_true rfl)⟩ dX11_buyer_105 (st' := [.int q9]) (σ' := (sI σ 565 0 (1 : Int32))) rfl rfl ?_
        exact g_iret X hr hlk dX11_buyer_108 (by cases h; rfl)
      replace h := (if_neg c8).symm.trans h
      by_cases c10 : x2 = (6 : Int32)
      · replace h := (if_pos c10).symm.trans h
        refine g_tableIn (tgt := 109) (off := 70) X dX11_buyer_39 (by rw [c10]; decide) (by rw [c10]; decide) (by rw [c10]; rfl) (by decide) ?_
        refine g_aload_n X dX11_buyer_109 rfl 0 rfl ?_
        refine g_iload_n X dX11_buyer_110 rfl 1 rfl ?_
        obtain ⟨q11, hq11, h⟩ := Option.bind_eq_some_iff.mp h
        refine g_cV X (c_Model_billsOf  hq11) lk_RX11_417 my_X11_billsOf (a := 565) (ci := 11) kd_565 (by decide) rfl (As := [.int x1]) (rest := []) rfl rfl (Nat.le_of_ble_eq_true rfl) ⟨(Nat.le_of_ble_eq_true rfl), (Nat.le_of_ble_eq_true rfl)⟩ ⟨(Nat.le_of_ble_eq_true rfl), (Nat.le_of_ble_eq_true rfl)⟩ dX11_buyer_111 (st' := [.int q11]) (σ' := (sI σ 565 0 (1 : Int32))) rfl rfl ?_
        exact g_iret X hr hlk dX11_buyer_114 (by cases h; rfl)
      replace h := (if_neg c10).symm.trans h
      have nc4 := neT c4
      have nc6 := neT c6
      have nc8 := neT c8
      have nc10 := neT c10
      rw [show (0 : Int32).toInt = 0 from rfl] at nc4
      rw [show (4 : Int32).toInt = 4 from rfl] at nc6
      rw [show (5 : Int32).toInt = 5 from rfl] at nc8
      rw [show (6 : Int32).toInt = 6 from rfl] at nc10
      have w13 : (x2.toInt < 0 ∨ 6 < x2.toInt) ∨ (x2.toInt = 1 ∨ x2.toInt = 2 ∨ x2.toInt = 3) := by omega
      refine g_tableD (tgt := 115) X dX11_buyer_39 (by
        rcases w13 with w13 | w13
        · exact Or.inl w13
        · refine Or.inr ?_
          rcases w13 with w13 | w13 | w13 <;> rw [w13] <;> rfl) (by decide) ?_
      refine g_aload_n X dX11_buyer_115 rfl 0 rfl ?_
      refine g_get X fl_RX11_49 dX11_buyer_116 kd_565 (v := .ref (be θ + 574)) rfl ?_
      refine g_iconst X dX11_buyer_119 (v := (4 : Int32)) ic_4 ?_
      refine g_iload_n X dX11_buyer_120 rfl 1 rfl ?_
      refine g_imul X dX11_buyer_121 ?_
      refine g_iload_n X dX11_buyer_122 rfl 2 rfl ?_
      refine g_iadd X dX11_buyer_123 ?_
      obtain ⟨g12, h⟩ := ite_some h
      refine g_iald X kd_574 ln_574 (inb_in g12) dX11_buyer_124 ?_
      exact g_iret X hr hlk dX11_buyer_125 (by cases h; rfl)
    · replace h := (if_neg c3).symm.trans h
      refine g_iconst X dX11_buyer_36 (v := (0 : Int32)) ic_0 ?_
      exact g_iret X hr hlk dX11_buyer_37 (by cases h; rfl)
  · replace h := (if_neg c2).symm.trans h
    refine g_iload_n X dX11_buyer_9 rfl 2 rfl ?_
    refine g_i2l X dX11_buyer_10 (v := ((x2).toInt64)) rfl ?_
    refine g_lconst X dX11_buyer_11 (v := (0 : Int64)) rfl ?_
    refine g_ldc2 X cst_RX11_415 dX11_buyer_12 ?_
    obtain ⟨q14, hq14, h⟩ := Option.bind_eq_some_iff.mp h
    refine g_cS X (c_Model_isIn  hq14) lk_RX11_233 my_X11_isIn (As := [.long ((x2).toInt64), .long (0 : Int64), .long (6 : Int64)]) (rest := [.ref (be θ + 565)]) rfl rfl (Nat.le_of_ble_eq_true rfl) ⟨(Nat.le_of_ble_eq_true rfl), (Nat.le_of_ble_eq_true rfl)⟩ ⟨(Nat.le_of_ble_eq_true rfl), (Nat.le_of_ble_eq_true rfl)⟩ dX11_buyer_15 (st' := [.int q14, .ref (be θ + 565)]) (σ' := σ) rfl rfl ?_
    refine g_if_eq (tgt := 25) X dX11_buyer_18 (by decide) (fun c15 => ?_) (fun c15 => ?_)
    · replace h := (if_pos c15).symm.trans h
      refine g_iconst X dX11_buyer_25 (v := (1 : Int32)) ic_1 ?_
      refine g_putI X fl_RX11_112 dX11_buyer_26 kd_565 rfl rfl rfl ?_
      refine g_aload_n X dX11_buyer_29 rfl 0 rfl ?_
      refine g_get X fl_RX11_112 dX11_buyer_30 kd_565 (v := .int (mI (sI σ 565 0 (1 : Int32)) 565 0)) rfl ?_
      refine g_if_le (tgt := 38) X dX11_buyer_33 (by decide) (fun c16 => ?_) (fun c16 => ?_)
      · replace h := (if_pos c16).symm.trans h
        refine g_iload_n X dX11_buyer_38 rfl 2 rfl ?_
        by_cases c17 : x2 = (0 : Int32)
        · replace h := (if_pos c17).symm.trans h
          refine g_tableIn (tgt := 80) (off := 41) X dX11_buyer_39 (by rw [c17]; decide) (by rw [c17]; decide) (by rw [c17]; rfl) (by decide) ?_
          refine g_aload_n X dX11_buyer_80 rfl 0 rfl ?_
          refine g_get X fl_RX11_61 dX11_buyer_81 kd_565 (v := .ref (be θ + 578)) rfl ?_
          refine g_bipush X dX11_buyer_84 (v := (24 : Int32)) bp_24 ?_
          refine g_iload_n X dX11_buyer_86 rfl 1 rfl ?_
          refine g_iadd X dX11_buyer_87 ?_
          obtain ⟨g18, h⟩ := ite_some h
          refine g_iald X kd_578 ln_578 (inb_in g18) dX11_buyer_88 ?_
          exact g_iret X hr hlk dX11_buyer_89 (by cases h; rfl)
        replace h := (if_neg c17).symm.trans h
        by_cases c19 : x2 = (4 : Int32)
        · replace h := (if_pos c19).symm.trans h
          refine g_tableIn (tgt := 90) (off := 51) X dX11_buyer_39 (by rw [c19]; decide) (by rw [c19]; decide) (by rw [c19]; rfl) (by decide) ?_
          refine g_aload_n X dX11_buyer_90 rfl 0 rfl ?_
          refine g_aload_n X dX11_buyer_91 rfl 0 rfl ?_
          refine g_get X fl_RX11_61 dX11_buyer_92 kd_565 (v := .ref (be θ + 578)) rfl ?_
          refine g_iload_n X dX11_buyer_95 rfl 1 rfl ?_
          obtain ⟨q20, hq20, h⟩ := Option.bind_eq_some_iff.mp h
          refine g_cV X (c_Model_holds kd_578 hq20) lk_RX11_361 my_X11_holds (a := 565) (ci := 11) kd_565 (by decide) rfl (As := [.ref (be θ + 578), .int x1]) (rest := []) rfl rfl (Nat.le_of_ble_eq_true rfl) ⟨(Nat.le_of_ble_eq_true rfl), (Nat.le_of_ble_eq_true rfl)⟩ ⟨(Nat.le_of_ble_eq_true rfl), (Nat.le_of_ble_eq_true rfl)⟩ dX11_buyer_96 (st' := [.int q20]) (σ' := (sI σ 565 0 (1 : Int32))) rfl rfl ?_
          exact g_iret X hr hlk dX11_buyer_99 (by cases h; rfl)
        replace h := (if_neg c19).symm.trans h
        by_cases c21 : x2 = (5 : Int32)
        · replace h := (if_pos c21).symm.trans h
          refine g_tableIn (tgt := 100) (off := 61) X dX11_buyer_39 (by rw [c21]; decide) (by rw [c21]; decide) (by rw [c21]; rfl) (by decide) ?_
          refine g_aload_n X dX11_buyer_100 rfl 0 rfl ?_
          refine g_get X fl_RX11_61 dX11_buyer_101 kd_565 (v := .ref (be θ + 578)) rfl ?_
          refine g_iload_n X dX11_buyer_104 rfl 1 rfl ?_
          obtain ⟨q22, hq22, h⟩ := Option.bind_eq_some_iff.mp h
          refine g_cS X (c_Model_dueOf kd_578 hq22) lk_RX11_382 my_X11_dueOf (As := [.ref (be θ + 578), .int x1]) (rest := []) rfl rfl (Nat.le_of_ble_eq_true rfl) ⟨(Nat.le_of_ble_eq_true rfl), (Nat.le_of_ble_eq_true rfl)⟩ ⟨(Nat.le_of_ble_eq_true rfl), (Nat.le_of_ble_eq_true rfl)⟩ dX11_buyer_105 (st' := [.int q22]) (σ' := (sI σ 565 0 (1 : Int32))) rfl rfl ?_
          exact g_iret X hr hlk dX11_buyer_108 (by cases h; rfl)
        replace h := (if_neg c21).symm.trans h
        by_cases c23 : x2 = (6 : Int32)
        · replace h := (if_pos c23).symm.trans h
          refine g_tableIn (tgt := 109) (off := 70) X dX11_buyer_39 (by rw [c23]; decide) (by rw [c23]; decide) (by rw [c23]; rfl) (by decide) ?_
          refine g_aload_n X dX11_buyer_109 rfl 0 rfl ?_
          refine g_iload_n X dX11_buyer_110 rfl 1 rfl ?_
          obtain ⟨q24, hq24, h⟩ := Option.bind_eq_some_iff.mp h
          refine g_cV X (c_Model_billsOf  hq24) lk_RX11_417 my_X11_billsOf (a := 565) (ci := 11) kd_565 (by decide) rfl (As := [.int x1]) (rest := []) rfl rfl (Nat.le_of_ble_eq_true rfl) ⟨(Nat.le_of_ble_eq_true rfl), (Nat.le_of_ble_eq_true rfl)⟩ ⟨(Nat.le_of_ble_eq_true rfl), (Nat.le_of_ble_eq_true rfl)⟩ dX11_buyer_111 (st' := [.int q24]) (σ' := (sI σ 565 0 (1 : Int32))) rfl rfl ?_
          exact g_iret X hr hlk dX11_buyer_114 (by cases h; rfl)
        replace h := (if_neg c23).symm.trans h
        have nc17 := neT c17
        have nc19 := neT c19
        have nc21 := neT c21
        have nc23 := neT c23
        rw [show (0 : Int32).toInt = 0 from rfl] at nc17
        rw [show (4 : Int32).toInt = 4 from rfl] at nc19
        rw [show (5 : Int32).toInt = 5 from rfl] at nc21
        rw [show (6 : Int32).toInt = 6 from rfl] at nc23
        have w26 : (x2.toInt < 0 ∨ 6 < x2.toInt) ∨ (x2.toInt = 1 ∨ x2.toInt = 2 ∨ x2.toInt = 3) := by omega
        refine g_tableD (tgt := 115) X dX11_buyer_39 (by
          rcases w26 with w26 | w26
          · exact Or.inl w26
          · refine Or.inr ?_
            rcases w26 with w26 | w26 | w26 <;> rw [w26] <;> rfl) (by decide) ?_
        refine g_aload_n X dX11_buyer_115 rfl 0 rfl ?_
        refine g_get X fl_RX11_49 dX11_buyer_116 kd_565 (v := .ref (be θ + 574)) rfl ?_
        refine g_iconst X dX11_buyer_119 (v := (4 : Int32)) ic_4 ?_
        refine g_iload_n X dX11_buyer_120 rfl 1 rfl ?_
        refine g_imul X dX11_buyer_121 ?_
        refine g_iload_n X dX11_buyer_122 rfl 2 rfl ?_
        refine g_iadd X dX11_buyer_123 ?_
        obtain ⟨g25, h⟩ := ite_some h
        refine g_iald X kd_574 ln_574 (inb_in g25) dX11_buyer_124 ?_
        exact g_iret X hr hlk dX11_buyer_125 (by cases h; rfl)
      · replace h := (if_neg c16).symm.trans h
        refine g_iconst X dX11_buyer_36 (v := (0 : Int32)) ic_0 ?_
        exact g_iret X hr hlk dX11_buyer_37 (by cases h; rfl)
    · replace h := (if_neg c15).symm.trans h
      refine g_iconst X dX11_buyer_21 (v := (0 : Int32)) ic_0 ?_
      refine g_goto (tgt := 26) X dX11_buyer_22 (by decide) ?_
      refine g_putI X fl_RX11_112 dX11_buyer_26 kd_565 rfl rfl rfl ?_
      refine g_aload_n X dX11_buyer_29 rfl 0 rfl ?_
      refine g_get X fl_RX11_112 dX11_buyer_30 kd_565 (v := .int (mI (sI σ 565 0 (0 : Int32)) 565 0)) rfl ?_
      refine g_if_le (tgt := 38) X dX11_buyer_33 (by decide) (fun c27 => ?_) (fun c27 => ?_)
      · replace h := (if_pos c27).symm.trans h
        refine g_iload_n X dX11_buyer_38 rfl 2 rfl ?_
        by_cases c28 : x2 = (0 : Int32)
        · replace h := (if_pos c28).symm.trans h
          refine g_tableIn (tgt := 80) (off := 41) X dX11_buyer_39 (by rw [c28]; decide) (by rw [c28]; decide) (by rw [c28]; rfl) (by decide) ?_
          refine g_aload_n X dX11_buyer_80 rfl 0 rfl ?_
          refine g_get X fl_RX11_61 dX11_buyer_81 kd_565 (v := .ref (be θ + 578)) rfl ?_
          refine g_bipush X dX11_buyer_84 (v := (24 : Int32)) bp_24 ?_
          refine g_iload_n X dX11_buyer_86 rfl 1 rfl ?_
          refine g_iadd X dX11_buyer_87 ?_
          obtain ⟨g29, h⟩ := ite_some h
          refine g_iald X kd_578 ln_578 (inb_in g29) dX11_buyer_88 ?_
          exact g_iret X hr hlk dX11_buyer_89 (by cases h; rfl)
        replace h := (if_neg c28).symm.trans h
        by_cases c30 : x2 = (4 : Int32)
        · replace h := (if_pos c30).symm.trans h
          refine g_tableIn (tgt := 90) (off := 51) X dX11_buyer_39 (by rw [c30]; decide) (by rw [c30]; decide) (by rw [c30]; rfl) (by decide) ?_
          refine g_aload_n X dX11_buyer_90 rfl 0 rfl ?_
          refine g_aload_n X dX11_buyer_91 rfl 0 rfl ?_
          refine g_get X fl_RX11_61 dX11_buyer_92 kd_565 (v := .ref (be θ + 578)) rfl ?_
          refine g_iload_n X dX11_buyer_95 rfl 1 rfl ?_
          obtain ⟨q31, hq31, h⟩ := Option.bind_eq_some_iff.mp h
          refine g_cV X (c_Model_holds kd_578 hq31) lk_RX11_361 my_X11_holds (a := 565) (ci := 11) kd_565 (by decide) rfl (As := [.ref (be θ + 578), .int x1]) (rest := []) rfl rfl (Nat.le_of_ble_eq_true rfl) ⟨(Nat.le_of_ble_eq_true rfl), (Nat.le_of_ble_eq_true rfl)⟩ ⟨(Nat.le_of_ble_eq_true rfl), (Nat.le_of_ble_eq_true rfl)⟩ dX11_buyer_96 (st' := [.int q31]) (σ' := (sI σ 565 0 (0 : Int32))) rfl rfl ?_
          exact g_iret X hr hlk dX11_buyer_99 (by cases h; rfl)
        replace h := (if_neg c30).symm.trans h
        by_cases c32 : x2 = (5 : Int32)
        · replace h := (if_pos c32).symm.trans h
          refine g_tableIn (tgt := 100) (off := 61) X dX11_buyer_39 (by rw [c32]; decide) (by rw [c32]; decide) (by rw [c32]; rfl) (by decide) ?_
          refine g_aload_n X dX11_buyer_100 rfl 0 rfl ?_
          refine g_get X fl_RX11_61 dX11_buyer_101 kd_565 (v := .ref (be θ + 578)) rfl ?_
          refine g_iload_n X dX11_buyer_104 rfl 1 rfl ?_
          obtain ⟨q33, hq33, h⟩ := Option.bind_eq_some_iff.mp h
          refine g_cS X (c_Model_dueOf kd_578 hq33) lk_RX11_382 my_X11_dueOf (As := [.ref (be θ + 578), .int x1]) (rest := []) rfl rfl (Nat.le_of_ble_eq_true rfl) ⟨(Nat.le_of_ble_eq_true rfl), (Nat.le_of_ble_eq_true rfl)⟩ ⟨(Nat.le_of_ble_eq_true rfl), (Nat.le_of_ble_eq_true rfl)⟩ dX11_buyer_105 (st' := [.int q33]) (σ' := (sI σ 565 0 (0 : Int32))) rfl rfl ?_
          exact g_iret X hr hlk dX11_buyer_108 (by cases h; rfl)
        replace h := (if_neg c32).symm.trans h
        by_cases c34 : x2 = (6 : Int32)
        · replace h := (if_pos c34).symm.trans h
          refine g_tableIn (tgt := 109) (off := 70) X dX11_buyer_39 (by rw [c34]; decide) (by rw [c34]; decide) (by rw [c34]; rfl) (by decide) ?_
          refine g_aload_n X dX11_buyer_109 rfl 0 rfl ?_
          refine g_iload_n X dX11_buyer_110 rfl 1 rfl ?_
          obtain ⟨q35, hq35, h⟩ := Option.bind_eq_some_iff.mp h
          refine g_cV X (c_Model_billsOf  hq35) lk_RX11_417 my_X11_billsOf (a := 565) (ci := 11) kd_565 (by decide) rfl (As := [.int x1]) (rest := []) rfl rfl (Nat.le_of_ble_eq_true rfl) ⟨(Nat.le_of_ble_eq_true rfl), (Nat.le_of_ble_eq_true rfl)⟩ ⟨(Nat.le_of_ble_eq_true rfl), (Nat.le_of_ble_eq_true rfl)⟩ dX11_buyer_111 (st' := [.int q35]) (σ' := (sI σ 565 0 (0 : Int32))) rfl rfl ?_
          exact g_iret X hr hlk dX11_buyer_114 (by cases h; rfl)
        replace h := (if_neg c34).symm.trans h
        have nc28 := neT c28
        have nc30 := neT c30
        have nc32 := neT c32
        have nc34 := neT c34
        rw [show (0 : Int32).toInt = 0 from rfl] at nc28
        rw [show (4 : Int32).toInt = 4 from rfl] at nc30
        rw [show (5 : Int32).toInt = 5 from rfl] at nc32
        rw [show (6 : Int32).toInt = 6 from rfl] at nc34
        have w37 : (x2.toInt < 0 ∨ 6 < x2.toInt) ∨ (x2.toInt = 1 ∨ x2.toInt = 2 ∨ x2.toInt = 3) := by omega
        refine g_tableD (tgt := 115) X dX11_buyer_39 (by
          rcases w37 with w37 | w37
          · exact Or.inl w37
          · refine Or.inr ?_
            rcases w37 with w37 | w37 | w37 <;> rw [w37] <;> rfl) (by decide) ?_
        refine g_aload_n X dX11_buyer_115 rfl 0 rfl ?_
        refine g_get X fl_RX11_49 dX11_buyer_116 kd_565 (v := .ref (be θ + 574)) rfl ?_
        refine g_iconst X dX11_buyer_119 (v := (4 : Int32)) ic_4 ?_
        refine g_iload_n X dX11_buyer_120 rfl 1 rfl ?_
        refine g_imul X dX11_buyer_121 ?_
        refine g_iload_n X dX11_buyer_122 rfl 2 rfl ?_
        refine g_iadd X dX11_buyer_123 ?_
        obtain ⟨g36, h⟩ := ite_some h
        refine g_iald X kd_574 ln_574 (inb_in g36) dX11_buyer_124 ?_
        exact g_iret X hr hlk dX11_buyer_125 (by cases h; rfl)
      · replace h := (if_neg c27).symm.trans h
        refine g_iconst X dX11_buyer_36 (v := (0 : Int32)) ic_0 ?_
        exact g_iret X hr hlk dX11_buyer_37 (by cases h; rfl)
set_option maxHeartbeats 4000000 in
set_option maxRecDepth 20000 in
theorem c_Model_buyer {θ : Th} {l : Launch} {σ : Mem} {x1 : Int32} {x2 : Int32} {r : Int32 × Mem}  (h : f_Model_buyer σ x1 x2 = some r) : Cn θ l yX11_buyer cX11_buyer 3 (some .int) 1 0 0 [.ref (be θ + 565), .int x1, .int x2] σ (some (.int r.1), r.2) :=
  Cn.of (by decide) (Nat.le_of_ble_eq_true rfl) (fun p e s m below meth c X hr hlk => g_Model_buyer X hr hlk  h)
theorem dX11_liking_0 : decode cX11_liking 0 = .ok (.aload_n 0, 1) := by decide +kernel
theorem dX11_liking_1 : decode cX11_liking 1 = .ok (.iconst 0, 1) := by decide +kernel
theorem dX11_liking_2 : decode cX11_liking 2 = .ok (.putfield 112, 3) := by decide +kernel
theorem dX11_liking_5 : decode cX11_liking 5 = .ok (.aload_n 0, 1) := by decide +kernel
theorem dX11_liking_6 : decode cX11_liking 6 = .ok (.iload_n 1, 1) := by decide +kernel
theorem dX11_liking_7 : decode cX11_liking 7 = .ok (.invokevirtual 412, 3) := by decide +kernel
theorem dX11_liking_10 : decode cX11_liking 10 = .ok (.ifCond .eq 24, 3) := by decide +kernel
theorem dX11_liking_13 : decode cX11_liking 13 = .ok (.aload_n 0, 1) := by decide +kernel
theorem dX11_liking_14 : decode cX11_liking 14 = .ok (.iload_n 2, 1) := by decide +kernel
theorem dX11_liking_15 : decode cX11_liking 15 = .ok (.invokevirtual 326, 3) := by decide +kernel
theorem dX11_liking_18 : decode cX11_liking 18 = .ok (.ifCond .eq 16, 3) := by decide +kernel
theorem dX11_liking_21 : decode cX11_liking 21 = .ok (.aload_n 0, 1) := by decide +kernel
theorem dX11_liking_22 : decode cX11_liking 22 = .ok (.aload_n 0, 1) := by decide +kernel
theorem dX11_liking_23 : decode cX11_liking 23 = .ok (.getfield 61, 3) := by decide +kernel
theorem dX11_liking_26 : decode cX11_liking 26 = .ok (.iload_n 1, 1) := by decide +kernel
theorem dX11_liking_27 : decode cX11_liking 27 = .ok (.iload_n 2, 1) := by decide +kernel
theorem dX11_liking_28 : decode cX11_liking 28 = .ok (.invokevirtual 373, 3) := by decide +kernel
theorem dX11_liking_31 : decode cX11_liking 31 = .ok (.goto 4, 3) := by decide +kernel
theorem dX11_liking_34 : decode cX11_liking 34 = .ok (.iconst (-1), 1) := by decide +kernel
theorem dX11_liking_35 : decode cX11_liking 35 = .ok (.ireturn, 1) := by decide +kernel
def f_Model_liking (σ : Mem) (x1 : Int32) (x2 : Int32) : Option (Int32 × Mem) :=
  (f_Model_isBuyer (sI σ 565 0 (0 : Int32)) x1).bind fun q1 =>
  if q1 = (0 : Int32) then
    some ((-1 : Int32), (sI σ 565 0 (0 : Int32)))
  else
    (f_Model_isThing (sI σ 565 0 (0 : Int32)) x2).bind fun q3 =>
    if q3 = (0 : Int32) then
      some ((-1 : Int32), (sI σ 565 0 (0 : Int32)))
    else
      (f_Model_likingOf (sI σ 565 0 (0 : Int32)) 578 x1 x2).bind fun q5 =>
      some (q5.1, q5.2)
set_option maxHeartbeats 4000000 in
set_option maxRecDepth 20000 in
theorem g_Model_liking (X : Cx θ p s m args c cX11_liking 3 RX11) (hr : meth.sig.returnType = some .int) (hlk : meth.locks = false)  {σ : Mem} {x1 : Int32} {x2 : Int32} {r : Int32 × Mem}  (h : f_Model_liking σ x1 x2 = some r) : GB θ p l e 64 s m args below meth c 3 (some (.int r.1), r.2) 0 [(0, .ref (be θ + 565)), (1, .int x1), (2, .int x2)] [] σ := by
  unfold f_Model_liking at h
  refine g_aload_n X dX11_liking_0 rfl 0 rfl ?_
  refine g_iconst X dX11_liking_1 (v := (0 : Int32)) ic_0 ?_
  refine g_putI X fl_RX11_112 dX11_liking_2 kd_565 rfl rfl rfl ?_
  refine g_aload_n X dX11_liking_5 rfl 0 rfl ?_
  refine g_iload_n X dX11_liking_6 rfl 1 rfl ?_
  obtain ⟨q1, hq1, h⟩ := Option.bind_eq_some_iff.mp h
  refine g_cV X (c_Model_isBuyer  hq1) lk_RX11_412 my_X11_isBuyer (a := 565) (ci := 11) kd_565 (by decide) rfl (As := [.int x1]) (rest := []) rfl rfl (Nat.le_of_ble_eq_true rfl) ⟨(Nat.le_of_ble_eq_true rfl), (Nat.le_of_ble_eq_true rfl)⟩ ⟨(Nat.le_of_ble_eq_true rfl), (Nat.le_of_ble_eq_true rfl)⟩ dX11_liking_7 (st' := [.int q1]) (σ' := (sI σ 565 0 (0 : Int32))) rfl rfl ?_
  refine g_if_eq (tgt := 34) X dX11_liking_10 (by decide) (fun c2 => ?_) (fun c2 => ?_)
  · replace h := (if_pos c2).symm.trans h
    refine g_iconst X dX11_liking_34 (v := (-1 : Int32)) ic_m1 ?_
    exact g_iret X hr hlk dX11_liking_35 (by cases h; rfl)
  · replace h := (if_neg c2).symm.trans h
    refine g_aload_n X dX11_liking_13 rfl 0 rfl ?_
    refine g_iload_n X dX11_liking_14 rfl 2 rfl ?_
    obtain ⟨q3, hq3, h⟩ := Option.bind_eq_some_iff.mp h
    refine g_cV X (c_Model_isThing  hq3) lk_RX11_326 my_X11_isThing (a := 565) (ci := 11) kd_565 (by decide) rfl (As := [.int x2]) (rest := []) rfl rfl (Nat.le_of_ble_eq_true rfl) ⟨(Nat.le_of_ble_eq_true rfl), (Nat.le_of_ble_eq_true rfl)⟩ ⟨(Nat.le_of_ble_eq_true rfl), (Nat.le_of_ble_eq_true rfl)⟩ dX11_liking_15 (st' := [.int q3]) (σ' := (sI σ 565 0 (0 : Int32))) rfl rfl ?_
    refine g_if_eq (tgt := 34) X dX11_liking_18 (by decide) (fun c4 => ?_) (fun c4 => ?_)
    · replace h := (if_pos c4).symm.trans h
      refine g_iconst X dX11_liking_34 (v := (-1 : Int32)) ic_m1 ?_
      exact g_iret X hr hlk dX11_liking_35 (by cases h; rfl)
    · replace h := (if_neg c4).symm.trans h
      refine g_aload_n X dX11_liking_21 rfl 0 rfl ?_
      refine g_aload_n X dX11_liking_22 rfl 0 rfl ?_
      refine g_get X fl_RX11_61 dX11_liking_23 kd_565 (v := .ref (be θ + 578)) rfl ?_
      refine g_iload_n X dX11_liking_26 rfl 1 rfl ?_
      refine g_iload_n X dX11_liking_27 rfl 2 rfl ?_
      obtain ⟨q5, hq5, h⟩ := Option.bind_eq_some_iff.mp h
      refine g_cV X (c_Model_likingOf kd_578 hq5) lk_RX11_373 my_X11_likingOf (a := 565) (ci := 11) kd_565 (by decide) rfl (As := [.ref (be θ + 578), .int x1, .int x2]) (rest := []) rfl rfl (Nat.le_of_ble_eq_true rfl) ⟨(Nat.le_of_ble_eq_true rfl), (Nat.le_of_ble_eq_true rfl)⟩ ⟨(Nat.le_of_ble_eq_true rfl), (Nat.le_of_ble_eq_true rfl)⟩ dX11_liking_28 (st' := [.int q5.1]) (σ' := q5.2) rfl rfl ?_
      refine g_goto (tgt := 35) X dX11_liking_31 (by decide) ?_
      exact g_iret X hr hlk dX11_liking_35 (by cases h; rfl)
set_option maxHeartbeats 4000000 in
set_option maxRecDepth 20000 in
theorem c_Model_liking {θ : Th} {l : Launch} {σ : Mem} {x1 : Int32} {x2 : Int32} {r : Int32 × Mem}  (h : f_Model_liking σ x1 x2 = some r) : Cn θ l yX11_liking cX11_liking 3 (some .int) 64 0 0 [.ref (be θ + 565), .int x1, .int x2] σ (some (.int r.1), r.2) :=
  Cn.of (by decide) (Nat.le_of_ble_eq_true rfl) (fun p e s m below meth c X hr hlk => g_Model_liking X hr hlk  h)
theorem dX11_bill_0 : decode cX11_bill 0 = .ok (.aload_n 0, 1) := by decide +kernel
theorem dX11_bill_1 : decode cX11_bill 1 = .ok (.iconst 0, 1) := by decide +kernel
theorem dX11_bill_2 : decode cX11_bill 2 = .ok (.putfield 112, 3) := by decide +kernel
theorem dX11_bill_5 : decode cX11_bill 5 = .ok (.aload_n 0, 1) := by decide +kernel
theorem dX11_bill_6 : decode cX11_bill 6 = .ok (.iload_n 1, 1) := by decide +kernel
theorem dX11_bill_7 : decode cX11_bill 7 = .ok (.invokevirtual 412, 3) := by decide +kernel
theorem dX11_bill_10 : decode cX11_bill 10 = .ok (.ifCond .eq 19, 3) := by decide +kernel
theorem dX11_bill_13 : decode cX11_bill 13 = .ok (.iload_n 2, 1) := by decide +kernel
theorem dX11_bill_14 : decode cX11_bill 14 = .ok (.ifCond .lt 15, 3) := by decide +kernel
theorem dX11_bill_17 : decode cX11_bill 17 = .ok (.iload_n 3, 1) := by decide +kernel
theorem dX11_bill_18 : decode cX11_bill 18 = .ok (.i2l, 1) := by decide +kernel
theorem dX11_bill_19 : decode cX11_bill 19 = .ok (.lconst 0, 1) := by decide +kernel
theorem dX11_bill_20 : decode cX11_bill 20 = .ok (.ldc2_w 288, 3) := by decide +kernel
theorem dX11_bill_23 : decode cX11_bill 23 = .ok (.invokestatic 233, 3) := by decide +kernel
theorem dX11_bill_26 : decode cX11_bill 26 = .ok (.ifCond .ne 5, 3) := by decide +kernel
theorem dX11_bill_29 : decode cX11_bill 29 = .ok (.iconst (-1), 1) := by decide +kernel
theorem dX11_bill_30 : decode cX11_bill 30 = .ok (.ireturn, 1) := by decide +kernel
theorem dX11_bill_31 : decode cX11_bill 31 = .ok (.iconst 0, 1) := by decide +kernel
theorem dX11_bill_32 : decode cX11_bill 32 = .ok (.istore 4, 2) := by decide +kernel
theorem dX11_bill_34 : decode cX11_bill 34 = .ok (.iconst 0, 1) := by decide +kernel
theorem dX11_bill_35 : decode cX11_bill 35 = .ok (.istore 5, 2) := by decide +kernel
theorem dX11_bill_37 : decode cX11_bill 37 = .ok (.iload 5, 2) := by decide +kernel
theorem dX11_bill_39 : decode cX11_bill 39 = .ok (.aload_n 0, 1) := by decide +kernel
theorem dX11_bill_40 : decode cX11_bill 40 = .ok (.getfield 61, 3) := by decide +kernel
theorem dX11_bill_43 : decode cX11_bill 43 = .ok (.bipush 126, 2) := by decide +kernel
theorem dX11_bill_45 : decode cX11_bill 45 = .ok (.iaload, 1) := by decide +kernel
theorem dX11_bill_46 : decode cX11_bill 46 = .ok (.if_icmp .ge 54, 3) := by decide +kernel
theorem dX11_bill_49 : decode cX11_bill 49 = .ok (.aload_n 0, 1) := by decide +kernel
theorem dX11_bill_50 : decode cX11_bill 50 = .ok (.getfield 61, 3) := by decide +kernel
theorem dX11_bill_53 : decode cX11_bill 53 = .ok (.bipush 30, 2) := by decide +kernel
theorem dX11_bill_55 : decode cX11_bill 55 = .ok (.iconst 4, 1) := by decide +kernel
theorem dX11_bill_56 : decode cX11_bill 56 = .ok (.iload 5, 2) := by decide +kernel
theorem dX11_bill_58 : decode cX11_bill 58 = .ok (.imul, 1) := by decide +kernel
theorem dX11_bill_59 : decode cX11_bill 59 = .ok (.iadd, 1) := by decide +kernel
theorem dX11_bill_60 : decode cX11_bill 60 = .ok (.iaload, 1) := by decide +kernel
theorem dX11_bill_61 : decode cX11_bill 61 = .ok (.iload_n 1, 1) := by decide +kernel
theorem dX11_bill_62 : decode cX11_bill 62 = .ok (.if_icmp .eq 6, 3) := by decide +kernel
theorem dX11_bill_65 : decode cX11_bill 65 = .ok (.goto 29, 3) := by decide +kernel
theorem dX11_bill_68 : decode cX11_bill 68 = .ok (.iload 4, 2) := by decide +kernel
theorem dX11_bill_70 : decode cX11_bill 70 = .ok (.iload_n 2, 1) := by decide +kernel
theorem dX11_bill_71 : decode cX11_bill 71 = .ok (.if_icmp .ne 20, 3) := by decide +kernel
theorem dX11_bill_74 : decode cX11_bill 74 = .ok (.aload_n 0, 1) := by decide +kernel
theorem dX11_bill_75 : decode cX11_bill 75 = .ok (.getfield 61, 3) := by decide +kernel
theorem dX11_bill_78 : decode cX11_bill 78 = .ok (.bipush 30, 2) := by decide +kernel
theorem dX11_bill_80 : decode cX11_bill 80 = .ok (.iconst 4, 1) := by decide +kernel
theorem dX11_bill_81 : decode cX11_bill 81 = .ok (.iload 5, 2) := by decide +kernel
theorem dX11_bill_83 : decode cX11_bill 83 = .ok (.imul, 1) := by decide +kernel
theorem dX11_bill_84 : decode cX11_bill 84 = .ok (.iadd, 1) := by decide +kernel
theorem dX11_bill_85 : decode cX11_bill 85 = .ok (.iconst 1, 1) := by decide +kernel
theorem dX11_bill_86 : decode cX11_bill 86 = .ok (.iadd, 1) := by decide +kernel
theorem dX11_bill_87 : decode cX11_bill 87 = .ok (.iload_n 3, 1) := by decide +kernel
theorem dX11_bill_88 : decode cX11_bill 88 = .ok (.iadd, 1) := by decide +kernel
theorem dX11_bill_89 : decode cX11_bill 89 = .ok (.iaload, 1) := by decide +kernel
theorem dX11_bill_90 : decode cX11_bill 90 = .ok (.ireturn, 1) := by decide +kernel
theorem dX11_bill_91 : decode cX11_bill 91 = .ok (.iinc 4 1, 3) := by decide +kernel
theorem dX11_bill_94 : decode cX11_bill 94 = .ok (.iinc 5 1, 3) := by decide +kernel
theorem dX11_bill_97 : decode cX11_bill 97 = .ok (.goto (-60), 3) := by decide +kernel
theorem dX11_bill_100 : decode cX11_bill 100 = .ok (.iconst (-1), 1) := by decide +kernel
theorem dX11_bill_101 : decode cX11_bill 101 = .ok (.ireturn, 1) := by decide +kernel
def f_Model_bill_L37 (σ : Mem) (x1 : Int32) (x2 : Int32) (x3 : Int32) (a : Int32 × Int32) : Option ((Int32 × Int32) ⊕ (Int32 × Mem)) :=
  @Prod.casesOn (Int32) (Int32) (fun _ => Option ((Int32 × Int32) ⊕ (Int32 × Mem))) a fun z4 z5 =>
  if (mI σ 578 (126 : Int32).toNatClampNeg) ≤ z5 then
    some (.inr ((-1 : Int32), σ))
  else
    if inb ((30 : Int32) + ((4 : Int32) * z5)) 312 then
      if (mI σ 578 ((30 : Int32) + ((4 : Int32) * z5)).toNatClampNeg) = x1 then
        if z4 = x2 then
          if inb ((((30 : Int32) + ((4 : Int32) * z5)) + (1 : Int32)) + x3) 312 then
            some (.inr ((mI σ 578 ((((30 : Int32) + ((4 : Int32) * z5)) + (1 : Int32)) + x3).toNatClampNeg), σ))
          else none
        else
          some (.inl ((z4 + (1 : Int32)), (z5 + (1 : Int32))))
      else
        some (.inl (z4, (z5 + (1 : Int32))))
    else none
def f_Model_bill (σ : Mem) (x1 : Int32) (x2 : Int32) (x3 : Int32) : Option (Int32 × Mem) :=
  (f_Model_isBuyer (sI σ 565 0 (0 : Int32)) x1).bind fun q1 =>
  if q1 = (0 : Int32) then
    some ((-1 : Int32), (sI σ 565 0 (0 : Int32)))
  else
    if x2 < (0 : Int32) then
      some ((-1 : Int32), (sI σ 565 0 (0 : Int32)))
    else
      (f_Model_isIn (sI σ 565 0 (0 : Int32)) ((x3).toInt64) (0 : Int64) (2 : Int64)).bind fun q4 =>
      if q4 = (0 : Int32) then
        some ((-1 : Int32), (sI σ 565 0 (0 : Int32)))
      else
        loopF (f_Model_bill_L37 (sI σ 565 0 (0 : Int32)) x1 x2 x3) FU ((0 : Int32), (0 : Int32))
set_option maxHeartbeats 4000000 in
set_option maxRecDepth 20000 in
theorem gs_Model_bill_L37 (X : Cx θ p s m args c cX11_bill 6 RX11) (hr : meth.sig.returnType = some .int) (hlk : meth.locks = false)  {σ : Mem} {x1 : Int32} {x2 : Int32} {x3 : Int32} {r : Int32 × Mem}  (z4 : Int32) (z5 : Int32) (x : (Int32 × Int32) ⊕ (Int32 × Mem)) (h : f_Model_bill_L37 σ x1 x2 x3 (z4, z5) = some x) (hk : Sum.elim (fun a => @Prod.casesOn (Int32) (Int32) (fun _ => Prop) a fun z4 z5 => GB θ p l e 1 s m args below meth c 6 (some (.int r.1), r.2) 37 [(0, .ref (be θ + 565)), (1, .int x1), (2, .int x2), (3, .int x3), (4, .int z4), (5, .int z5)] [] σ) (fun b => b = r) x) : GB θ p l e 1 s m args below meth c 6 (some (.int r.1), r.2) 37 [(0, .ref (be θ + 565)), (1, .int x1), (2, .int x2), (3, .int x3), (4, .int z4), (5, .int z5)] [] σ := by
  unfold f_Model_bill_L37 at h
  dsimp only at h
  refine g_iload X dX11_bill_37 5 rfl ?_
  refine g_aload_n X dX11_bill_39 rfl 0 rfl ?_
  refine g_get X fl_RX11_61 dX11_bill_40 kd_565 (v := .ref (be θ + 578)) rfl ?_
  refine g_bipush X dX11_bill_43 (v := (126 : Int32)) bp_126 ?_
  refine g_iald X kd_578 ln_578 (inb_in (show inb (126 : Int32) 312 = true by decide)) dX11_bill_45 ?_
  refine g_icmp_ge (tgt := 100) X dX11_bill_46 (by decide) (fun c6 => ?_) (fun c6 => ?_)
  · replace h := (if_pos c6).symm.trans h
    refine g_iconst X dX11_bill_100 (v := (-1 : Int32)) ic_m1 ?_
    have hk := inr_hk h hk
    have hk : ((-1 : Int32), σ) = r := hk
    subst hk
    exact g_iret X hr hlk dX11_bill_101 rfl
  · replace h := (if_neg c6).symm.trans h
    refine g_aload_n X dX11_bill_49 rfl 0 rfl ?_
    refine g_get X fl_RX11_61 dX11_bill_50 kd_565 (v := .ref (be θ + 578)) rfl ?_
    refine g_bipush X dX11_bill_53 (v := (30 : Int32)) bp_30 ?_
    refine g_iconst X dX11_bill_55 (v := (4 : Int32)) ic_4 ?_
    refine g_iload X dX11_bill_56 5 rfl ?_
    refine g_imul X dX11_bill_58 ?_
    refine g_iadd X dX11_bill_59 ?_
    obtain ⟨g7, h⟩ := ite_some h
    refine g_iald X kd_578 ln_578 (inb_in g7) dX11_bill_60 ?_
    refine g_iload_n X dX11_bill_61 rfl 1 rfl ?_
    refine g_icmp_eq (tgt := 68) X dX11_bill_62 (by decide) (fun c8 => ?_) (fun c8 => ?_)
    · replace h := (if_pos c8).symm.trans h
      refine g_iload X dX11_bill_68 4 rfl ?_
      refine g_iload_n X dX11_bill_70 rfl 2 rfl ?_
      refine g_icmp_ne (tgt := 91) X dX11_bill_71 (by decide) (fun c9 => ?_) (fun c9 => ?_)
      · replace h := (if_neg c9).symm.trans h
        refine g_iinc X dX11_bill_91 (kq := 4) rfl (congrArg (HAdd.hAdd _) ic_1) (by decide) (lv' := [(4, .int (z4 + (1 : Int32))), (0, .ref (be θ + 565)), (1, .int x1), (2, .int x2), (3, .int x3), (5, .int z5)]) rfl ?_
        refine g_iinc X dX11_bill_94 (kq := 5) rfl (congrArg (HAdd.hAdd _) ic_1) (by decide) (lv' := [(5, .int (z5 + (1 : Int32))), (4, .int (z4 + (1 : Int32))), (0, .ref (be θ + 565)), (1, .int x1), (2, .int x2), (3, .int x3)]) rfl ?_
        refine g_goto (tgt := 37) X dX11_bill_97 (by decide) ?_
        have hk := inl_hk h hk
        exact g_sub (lv' := [(0, .ref (be θ + 565)), (1, .int x1), (2, .int x2), (3, .int x3), (4, .int (z4 + (1 : Int32))), (5, .int (z5 + (1 : Int32)))]) [2, 3, 4, 5, 1, 0] rfl hk
      · replace h := (if_pos c9).symm.trans h
        refine g_aload_n X dX11_bill_74 rfl 0 rfl ?_
        refine g_get X fl_RX11_61 dX11_bill_75 kd_565 (v := .ref (be θ + 578)) rfl ?_
        refine g_bipush X dX11_bill_78 (v := (30 : Int32)) bp_30 ?_
        refine g_iconst X dX11_bill_80 (v := (4 : Int32)) ic_4 ?_
        refine g_iload X dX11_bill_81 5 rfl ?_
        refine g_imul X dX11_bill_83 ?_
        refine g_iadd X dX11_bill_84 ?_
        refine g_iconst X dX11_bill_85 (v := (1 : Int32)) ic_1 ?_
        refine g_iadd X dX11_bill_86 ?_
        refine g_iload_n X dX11_bill_87 rfl 3 rfl ?_
        refine g_iadd X dX11_bill_88 ?_
        obtain ⟨g10, h⟩ := ite_some h
        refine g_iald X kd_578 ln_578 (inb_in g10) dX11_bill_89 ?_
        have hk := inr_hk h hk
        have hk : ((mI σ 578 ((((30 : Int32) + ((4 : Int32) * z5)) + (1 : Int32)) + x3).toNatClampNeg), σ) = r := hk
        subst hk
        exact g_iret X hr hlk dX11_bill_90 rfl
    · replace h := (if_neg c8).symm.trans h
      refine g_goto (tgt := 94) X dX11_bill_65 (by decide) ?_
      refine g_iinc X dX11_bill_94 (kq := 5) rfl (congrArg (HAdd.hAdd _) ic_1) (by decide) (lv' := [(5, .int (z5 + (1 : Int32))), (0, .ref (be θ + 565)), (1, .int x1), (2, .int x2), (3, .int x3), (4, .int z4)]) rfl ?_
      refine g_goto (tgt := 37) X dX11_bill_97 (by decide) ?_
      have hk := inl_hk h hk
      exact g_sub (lv' := [(0, .ref (be θ + 565)), (1, .int x1), (2, .int x2), (3, .int x3), (4, .int z4), (5, .int (z5 + (1 : Int32)))]) [1, 2, 3, 4, 5, 0] rfl hk
set_option maxHeartbeats 4000000 in
set_option maxRecDepth 20000 in
theorem gl_Model_bill_L37 (X : Cx θ p s m args c cX11_bill 6 RX11) (hr : meth.sig.returnType = some .int) (hlk : meth.locks = false)  {σ : Mem} {x1 : Int32} {x2 : Int32} {x3 : Int32} {r : Int32 × Mem}  (n : Nat) (a : Int32 × Int32) (b : Int32 × Mem) (h : loopF (f_Model_bill_L37 σ x1 x2 x3) n a = some b) (hk : (fun b => b = r) b) : (fun a => @Prod.casesOn (Int32) (Int32) (fun _ => Prop) a fun z4 z5 => GB θ p l e 1 s m args below meth c 6 (some (.int r.1), r.2) 37 [(0, .ref (be θ + 565)), (1, .int x1), (2, .int x2), (3, .int x3), (4, .int z4), (5, .int z5)] [] σ) a :=
  loopF_by (P := (fun a => @Prod.casesOn (Int32) (Int32) (fun _ => Prop) a fun z4 z5 => GB θ p l e 1 s m args below meth c 6 (some (.int r.1), r.2) 37 [(0, .ref (be θ + 565)), (1, .int x1), (2, .int x2), (3, .int x3), (4, .int z4), (5, .int z5)] [] σ)) (K := (fun b => b = r)) (fun a x h hk => by obtain ⟨z4, z5⟩ := a; exact gs_Model_bill_L37 X hr hlk   z4 z5 x h hk) n a b h hk
set_option maxHeartbeats 4000000 in
set_option maxRecDepth 20000 in
theorem g_Model_bill (X : Cx θ p s m args c cX11_bill 6 RX11) (hr : meth.sig.returnType = some .int) (hlk : meth.locks = false)  {σ : Mem} {x1 : Int32} {x2 : Int32} {x3 : Int32} {r : Int32 × Mem}  (h : f_Model_bill σ x1 x2 x3 = some r) : GB θ p l e 1 s m args below meth c 6 (some (.int r.1), r.2) 0 [(0, .ref (be θ + 565)), (1, .int x1), (2, .int x2), (3, .int x3)] [] σ := by
  unfold f_Model_bill at h
  refine g_aload_n X dX11_bill_0 rfl 0 rfl ?_
  refine g_iconst X dX11_bill_1 (v := (0 : Int32)) ic_0 ?_
  refine g_putI X fl_RX11_112 dX11_bill_2 kd_565 rfl rfl rfl ?_
  refine g_aload_n X dX11_bill_5 rfl 0 rfl ?_
  refine g_iload_n X dX11_bill_6 rfl 1 rfl ?_
  obtain ⟨q1, hq1, h⟩ := Option.bind_eq_some_iff.mp h
  refine g_cV X (c_Model_isBuyer  hq1) lk_RX11_412 my_X11_isBuyer (a := 565) (ci := 11) kd_565 (by decide) rfl (As := [.int x1]) (rest := []) rfl rfl (Nat.le_of_ble_eq_true rfl) ⟨(Nat.le_of_ble_eq_true rfl), (Nat.le_of_ble_eq_true rfl)⟩ ⟨(Nat.le_of_ble_eq_true rfl), (Nat.le_of_ble_eq_true rfl)⟩ dX11_bill_7 (st' := [.int q1]) (σ' := (sI σ 565 0 (0 : Int32))) rfl rfl ?_
  refine g_if_eq (tgt := 29) X dX11_bill_10 (by decide) (fun c2 => ?_) (fun c2 => ?_)
  · replace h := (if_pos c2).symm.trans h
    refine g_iconst X dX11_bill_29 (v := (-1 : Int32)) ic_m1 ?_
    exact g_iret X hr hlk dX11_bill_30 (by cases h; rfl)
  · replace h := (if_neg c2).symm.trans h
    refine g_iload_n X dX11_bill_13 rfl 2 rfl ?_
    refine g_if_lt (tgt := 29) X dX11_bill_14 (by decide) (fun c3 => ?_) (fun c3 => ?_)
    · replace h := (if_pos c3).symm.trans h
      refine g_iconst X dX11_bill_29 (v := (-1 : Int32)) ic_m1 ?_
      exact g_iret X hr hlk dX11_bill_30 (by cases h; rfl)
    · replace h := (if_neg c3).symm.trans h
      refine g_iload_n X dX11_bill_17 rfl 3 rfl ?_
      refine g_i2l X dX11_bill_18 (v := ((x3).toInt64)) rfl ?_
      refine g_lconst X dX11_bill_19 (v := (0 : Int64)) rfl ?_
      refine g_ldc2 X cst_RX11_288 dX11_bill_20 ?_
      obtain ⟨q4, hq4, h⟩ := Option.bind_eq_some_iff.mp h
      refine g_cS X (c_Model_isIn  hq4) lk_RX11_233 my_X11_isIn (As := [.long ((x3).toInt64), .long (0 : Int64), .long (2 : Int64)]) (rest := []) rfl rfl (Nat.le_of_ble_eq_true rfl) ⟨(Nat.le_of_ble_eq_true rfl), (Nat.le_of_ble_eq_true rfl)⟩ ⟨(Nat.le_of_ble_eq_true rfl), (Nat.le_of_ble_eq_true rfl)⟩ dX11_bill_23 (st' := [.int q4]) (σ' := (sI σ 565 0 (0 : Int32))) rfl rfl ?_
      refine g_if_ne (tgt := 31) X dX11_bill_26 (by decide) (fun c5 => ?_) (fun c5 => ?_)
      · replace h := (if_neg c5).symm.trans h
        refine g_iconst X dX11_bill_31 (v := (0 : Int32)) ic_0 ?_
        refine g_istore X dX11_bill_32 (by decide) (lv' := [(4, .int (0 : Int32)), (0, .ref (be θ + 565)), (1, .int x1), (2, .int x2), (3, .int x3)]) rfl ?_
        refine g_iconst X dX11_bill_34 (v := (0 : Int32)) ic_0 ?_
        refine g_istore X dX11_bill_35 (by decide) (lv' := [(5, .int (0 : Int32)), (4, .int (0 : Int32)), (0, .ref (be θ + 565)), (1, .int x1), (2, .int x2), (3, .int x3)]) rfl ?_
        exact g_sub (lv' := [(0, .ref (be θ + 565)), (1, .int x1), (2, .int x2), (3, .int x3), (4, .int (0 : Int32)), (5, .int (0 : Int32))]) [2, 3, 4, 5, 1, 0] rfl (gl_Model_bill_L37 X hr hlk    FU _ _ h rfl)
      · replace h := (if_pos c5).symm.trans h
        refine g_iconst X dX11_bill_29 (v := (-1 : Int32)) ic_m1 ?_
        exact g_iret X hr hlk dX11_bill_30 (by cases h; rfl)
set_option maxHeartbeats 4000000 in
set_option maxRecDepth 20000 in
theorem c_Model_bill {θ : Th} {l : Launch} {σ : Mem} {x1 : Int32} {x2 : Int32} {x3 : Int32} {r : Int32 × Mem}  (h : f_Model_bill σ x1 x2 x3 = some r) : Cn θ l yX11_bill cX11_bill 6 (some .int) 1 0 0 [.ref (be θ + 565), .int x1, .int x2, .int x3] σ (some (.int r.1), r.2) :=
  Cn.of (by decide) (Nat.le_of_ble_eq_true rfl) (fun p e s m below meth c X hr hlk => g_Model_bill X hr hlk  h)
theorem dX11_law_0 : decode cX11_law 0 = .ok (.aload_n 0, 1) := by decide +kernel
theorem dX11_law_1 : decode cX11_law 1 = .ok (.iconst 0, 1) := by decide +kernel
theorem dX11_law_2 : decode cX11_law 2 = .ok (.putfield 112, 3) := by decide +kernel
theorem dX11_law_5 : decode cX11_law 5 = .ok (.iload_n 1, 1) := by decide +kernel
theorem dX11_law_6 : decode cX11_law 6 = .ok (.iconst (-1), 1) := by decide +kernel
theorem dX11_law_7 : decode cX11_law 7 = .ok (.if_icmp .eq 21, 3) := by decide +kernel
theorem dX11_law_10 : decode cX11_law 10 = .ok (.iload_n 1, 1) := by decide +kernel
theorem dX11_law_11 : decode cX11_law 11 = .ok (.i2l, 1) := by decide +kernel
theorem dX11_law_12 : decode cX11_law 12 = .ok (.lconst 0, 1) := by decide +kernel
theorem dX11_law_13 : decode cX11_law 13 = .ok (.aload_n 0, 1) := by decide +kernel
theorem dX11_law_14 : decode cX11_law 14 = .ok (.getfield 299, 3) := by decide +kernel
theorem dX11_law_17 : decode cX11_law 17 = .ok (.iconst 1, 1) := by decide +kernel
theorem dX11_law_18 : decode cX11_law 18 = .ok (.isub, 1) := by decide +kernel
theorem dX11_law_19 : decode cX11_law 19 = .ok (.i2l, 1) := by decide +kernel
theorem dX11_law_20 : decode cX11_law 20 = .ok (.invokestatic 233, 3) := by decide +kernel
theorem dX11_law_23 : decode cX11_law 23 = .ok (.ifCond .ne 5, 3) := by decide +kernel
theorem dX11_law_26 : decode cX11_law 26 = .ok (.iconst 0, 1) := by decide +kernel
theorem dX11_law_27 : decode cX11_law 27 = .ok (.ireturn, 1) := by decide +kernel
theorem dX11_law_28 : decode cX11_law 28 = .ok (.aload_n 0, 1) := by decide +kernel
theorem dX11_law_29 : decode cX11_law 29 = .ok (.iload_n 1, 1) := by decide +kernel
theorem dX11_law_30 : decode cX11_law 30 = .ok (.putfield 70, 3) := by decide +kernel
theorem dX11_law_33 : decode cX11_law 33 = .ok (.iconst 1, 1) := by decide +kernel
theorem dX11_law_34 : decode cX11_law 34 = .ok (.ireturn, 1) := by decide +kernel
def f_Model_law (σ : Mem) (x1 : Int32) : Option (Int32 × Mem) :=
  if x1 = (-1 : Int32) then
    some ((1 : Int32), (sI (sI σ 565 0 (0 : Int32)) 565 35 x1))
  else
    (f_Model_isIn (sI σ 565 0 (0 : Int32)) ((x1).toInt64) (0 : Int64) ((((mI (sI σ 565 0 (0 : Int32)) 565 7) - (1 : Int32))).toInt64)).bind fun q2 =>
    if q2 = (0 : Int32) then
      some ((0 : Int32), (sI σ 565 0 (0 : Int32)))
    else
      some ((1 : Int32), (sI (sI σ 565 0 (0 : Int32)) 565 35 x1))
set_option maxHeartbeats 4000000 in
set_option maxRecDepth 20000 in
theorem g_Model_law (X : Cx θ p s m args c cX11_law 2 RX11) (hr : meth.sig.returnType = some .boolean) (hlk : meth.locks = false)  {σ : Mem} {x1 : Int32} {r : Int32 × Mem}  (h : f_Model_law σ x1 = some r) : GB θ p l e 1 s m args below meth c 2 (some (.int r.1), r.2) 0 [(0, .ref (be θ + 565)), (1, .int x1)] [] σ := by
  unfold f_Model_law at h
  refine g_aload_n X dX11_law_0 rfl 0 rfl ?_
  refine g_iconst X dX11_law_1 (v := (0 : Int32)) ic_0 ?_
  refine g_putI X fl_RX11_112 dX11_law_2 kd_565 rfl rfl rfl ?_
  refine g_iload_n X dX11_law_5 rfl 1 rfl ?_
  refine g_iconst X dX11_law_6 (v := (-1 : Int32)) ic_m1 ?_
  refine g_icmp_eq (tgt := 28) X dX11_law_7 (by decide) (fun c1 => ?_) (fun c1 => ?_)
  · replace h := (if_pos c1).symm.trans h
    refine g_aload_n X dX11_law_28 rfl 0 rfl ?_
    refine g_iload_n X dX11_law_29 rfl 1 rfl ?_
    refine g_putI X fl_RX11_70 dX11_law_30 kd_565 rfl rfl rfl ?_
    refine g_iconst X dX11_law_33 (v := (1 : Int32)) ic_1 ?_
    exact g_zret X hr hlk bz1 dX11_law_34 (by cases h; rfl)
  · replace h := (if_neg c1).symm.trans h
    refine g_iload_n X dX11_law_10 rfl 1 rfl ?_
    refine g_i2l X dX11_law_11 (v := ((x1).toInt64)) rfl ?_
    refine g_lconst X dX11_law_12 (v := (0 : Int64)) rfl ?_
    refine g_aload_n X dX11_law_13 rfl 0 rfl ?_
    refine g_get X fl_RX11_299 dX11_law_14 kd_565 (v := .int (mI (sI σ 565 0 (0 : Int32)) 565 7)) rfl ?_
    refine g_iconst X dX11_law_17 (v := (1 : Int32)) ic_1 ?_
    refine g_isub X dX11_law_18 ?_
    refine g_i2l X dX11_law_19 (v := ((((mI (sI σ 565 0 (0 : Int32)) 565 7) - (1 : Int32))).toInt64)) rfl ?_
    obtain ⟨q2, hq2, h⟩ := Option.bind_eq_some_iff.mp h
    refine g_cS X (c_Model_isIn  hq2) lk_RX11_233 my_X11_isIn (As := [.long ((x1).toInt64), .long (0 : Int64), .long ((((mI (sI σ 565 0 (0 : Int32)) 565 7) - (1 : Int32))).toInt64)]) (rest := []) rfl rfl (Nat.le_of_ble_eq_true rfl) ⟨(Nat.le_of_ble_eq_true rfl), (Nat.le_of_ble_eq_true rfl)⟩ ⟨(Nat.le_of_ble_eq_true rfl), (Nat.le_of_ble_eq_true rfl)⟩ dX11_law_20 (st' := [.int q2]) (σ' := (sI σ 565 0 (0 : Int32))) rfl rfl ?_
    refine g_if_ne (tgt := 28) X dX11_law_23 (by decide) (fun c3 => ?_) (fun c3 => ?_)
    · replace h := (if_neg c3).symm.trans h
      refine g_aload_n X dX11_law_28 rfl 0 rfl ?_
      refine g_iload_n X dX11_law_29 rfl 1 rfl ?_
      refine g_putI X fl_RX11_70 dX11_law_30 kd_565 rfl rfl rfl ?_
      refine g_iconst X dX11_law_33 (v := (1 : Int32)) ic_1 ?_
      exact g_zret X hr hlk bz1 dX11_law_34 (by cases h; rfl)
    · replace h := (if_pos c3).symm.trans h
      refine g_iconst X dX11_law_26 (v := (0 : Int32)) ic_0 ?_
      exact g_zret X hr hlk bz0 dX11_law_27 (by cases h; rfl)
set_option maxHeartbeats 4000000 in
set_option maxRecDepth 20000 in
theorem c_Model_law {θ : Th} {l : Launch} {σ : Mem} {x1 : Int32} {r : Int32 × Mem}  (h : f_Model_law σ x1 = some r) : Cn θ l yX11_law cX11_law 2 (some .boolean) 1 0 0 [.ref (be θ + 565), .int x1] σ (some (.int r.1), r.2) :=
  Cn.of (by decide) (Nat.le_of_ble_eq_true rfl) (fun p e s m below meth c X hr hlk => g_Model_law X hr hlk  h)
theorem dX11_tempted_0 : decode cX11_tempted 0 = .ok (.aload_n 0, 1) := by decide +kernel
theorem dX11_tempted_1 : decode cX11_tempted 1 = .ok (.iconst 0, 1) := by decide +kernel
theorem dX11_tempted_2 : decode cX11_tempted 2 = .ok (.putfield 112, 3) := by decide +kernel
theorem dX11_tempted_5 : decode cX11_tempted 5 = .ok (.iload_n 1, 1) := by decide +kernel
theorem dX11_tempted_6 : decode cX11_tempted 6 = .ok (.i2l, 1) := by decide +kernel
theorem dX11_tempted_7 : decode cX11_tempted 7 = .ok (.lconst 0, 1) := by decide +kernel
theorem dX11_tempted_8 : decode cX11_tempted 8 = .ok (.ldc2_w 420, 3) := by decide +kernel
theorem dX11_tempted_11 : decode cX11_tempted 11 = .ok (.invokestatic 233, 3) := by decide +kernel
theorem dX11_tempted_14 : decode cX11_tempted 14 = .ok (.ifCond .eq 11, 3) := by decide +kernel
theorem dX11_tempted_17 : decode cX11_tempted 17 = .ok (.iload_n 1, 1) := by decide +kernel
theorem dX11_tempted_18 : decode cX11_tempted 18 = .ok (.aload_n 0, 1) := by decide +kernel
theorem dX11_tempted_19 : decode cX11_tempted 19 = .ok (.getfield 74, 3) := by decide +kernel
theorem dX11_tempted_22 : decode cX11_tempted 22 = .ok (.if_icmp .ne 5, 3) := by decide +kernel
theorem dX11_tempted_25 : decode cX11_tempted 25 = .ok (.iconst 0, 1) := by decide +kernel
theorem dX11_tempted_26 : decode cX11_tempted 26 = .ok (.ireturn, 1) := by decide +kernel
theorem dX11_tempted_27 : decode cX11_tempted 27 = .ok (.aload_n 0, 1) := by decide +kernel
theorem dX11_tempted_28 : decode cX11_tempted 28 = .ok (.iload_n 1, 1) := by decide +kernel
theorem dX11_tempted_29 : decode cX11_tempted 29 = .ok (.putfield 74, 3) := by decide +kernel
theorem dX11_tempted_32 : decode cX11_tempted 32 = .ok (.iconst 1, 1) := by decide +kernel
theorem dX11_tempted_33 : decode cX11_tempted 33 = .ok (.ireturn, 1) := by decide +kernel
def f_Model_tempted (σ : Mem) (x1 : Int32) : Option (Int32 × Mem) :=
  (f_Model_isIn (sI σ 565 0 (0 : Int32)) ((x1).toInt64) (0 : Int64) (9 : Int64)).bind fun q1 =>
  if q1 = (0 : Int32) then
    some ((0 : Int32), (sI σ 565 0 (0 : Int32)))
  else
    if x1 = (mI (sI σ 565 0 (0 : Int32)) 565 36) then
      some ((0 : Int32), (sI σ 565 0 (0 : Int32)))
    else
      some ((1 : Int32), (sI (sI σ 565 0 (0 : Int32)) 565 36 x1))
set_option maxHeartbeats 4000000 in
set_option maxRecDepth 20000 in
theorem g_Model_tempted (X : Cx θ p s m args c cX11_tempted 2 RX11) (hr : meth.sig.returnType = some .boolean) (hlk : meth.locks = false)  {σ : Mem} {x1 : Int32} {r : Int32 × Mem}  (h : f_Model_tempted σ x1 = some r) : GB θ p l e 1 s m args below meth c 2 (some (.int r.1), r.2) 0 [(0, .ref (be θ + 565)), (1, .int x1)] [] σ := by
  unfold f_Model_tempted at h
  refine g_aload_n X dX11_tempted_0 rfl 0 rfl ?_
  refine g_iconst X dX11_tempted_1 (v := (0 : Int32)) ic_0 ?_
  refine g_putI X fl_RX11_112 dX11_tempted_2 kd_565 rfl rfl rfl ?_
  refine g_iload_n X dX11_tempted_5 rfl 1 rfl ?_
  refine g_i2l X dX11_tempted_6 (v := ((x1).toInt64)) rfl ?_
  refine g_lconst X dX11_tempted_7 (v := (0 : Int64)) rfl ?_
  refine g_ldc2 X cst_RX11_420 dX11_tempted_8 ?_
  obtain ⟨q1, hq1, h⟩ := Option.bind_eq_some_iff.mp h
  refine g_cS X (c_Model_isIn  hq1) lk_RX11_233 my_X11_isIn (As := [.long ((x1).toInt64), .long (0 : Int64), .long (9 : Int64)]) (rest := []) rfl rfl (Nat.le_of_ble_eq_true rfl) ⟨(Nat.le_of_ble_eq_true rfl), (Nat.le_of_ble_eq_true rfl)⟩ ⟨(Nat.le_of_ble_eq_true rfl), (Nat.le_of_ble_eq_true rfl)⟩ dX11_tempted_11 (st' := [.int q1]) (σ' := (sI σ 565 0 (0 : Int32))) rfl rfl ?_
  refine g_if_eq (tgt := 25) X dX11_tempted_14 (by decide) (fun c2 => ?_) (fun c2 => ?_)
  · replace h := (if_pos c2).symm.trans h
    refine g_iconst X dX11_tempted_25 (v := (0 : Int32)) ic_0 ?_
    exact g_zret X hr hlk bz0 dX11_tempted_26 (by cases h; rfl)
  · replace h := (if_neg c2).symm.trans h
    refine g_iload_n X dX11_tempted_17 rfl 1 rfl ?_
    refine g_aload_n X dX11_tempted_18 rfl 0 rfl ?_
    refine g_get X fl_RX11_74 dX11_tempted_19 kd_565 (v := .int (mI (sI σ 565 0 (0 : Int32)) 565 36)) rfl ?_
    refine g_icmp_ne (tgt := 27) X dX11_tempted_22 (by decide) (fun c3 => ?_) (fun c3 => ?_)
    · replace h := (if_neg c3).symm.trans h
      refine g_aload_n X dX11_tempted_27 rfl 0 rfl ?_
      refine g_iload_n X dX11_tempted_28 rfl 1 rfl ?_
      refine g_putI X fl_RX11_74 dX11_tempted_29 kd_565 rfl rfl rfl ?_
      refine g_iconst X dX11_tempted_32 (v := (1 : Int32)) ic_1 ?_
      exact g_zret X hr hlk bz1 dX11_tempted_33 (by cases h; rfl)
    · replace h := (if_pos c3).symm.trans h
      refine g_iconst X dX11_tempted_25 (v := (0 : Int32)) ic_0 ?_
      exact g_zret X hr hlk bz0 dX11_tempted_26 (by cases h; rfl)
set_option maxHeartbeats 4000000 in
set_option maxRecDepth 20000 in
theorem c_Model_tempted {θ : Th} {l : Launch} {σ : Mem} {x1 : Int32} {r : Int32 × Mem}  (h : f_Model_tempted σ x1 = some r) : Cn θ l yX11_tempted cX11_tempted 2 (some .boolean) 1 0 0 [.ref (be θ + 565), .int x1] σ (some (.int r.1), r.2) :=
  Cn.of (by decide) (Nat.le_of_ble_eq_true rfl) (fun p e s m below meth c X hr hlk => g_Model_tempted X hr hlk  h)
theorem dX11_remember_0 : decode cX11_remember 0 = .ok (.aload_n 0, 1) := by decide +kernel
theorem dX11_remember_1 : decode cX11_remember 1 = .ok (.getfield 320, 3) := by decide +kernel
theorem dX11_remember_4 : decode cX11_remember 4 = .ok (.bipush 40, 2) := by decide +kernel
theorem dX11_remember_6 : decode cX11_remember 6 = .ok (.if_icmp .ne 44, 3) := by decide +kernel
theorem dX11_remember_9 : decode cX11_remember 9 = .ok (.iconst 0, 1) := by decide +kernel
theorem dX11_remember_10 : decode cX11_remember 10 = .ok (.istore_n 1, 1) := by decide +kernel
theorem dX11_remember_11 : decode cX11_remember 11 = .ok (.iload_n 1, 1) := by decide +kernel
theorem dX11_remember_12 : decode cX11_remember 12 = .ok (.sipush 12168, 3) := by decide +kernel
theorem dX11_remember_15 : decode cX11_remember 15 = .ok (.if_icmp .ge 25, 3) := by decide +kernel
theorem dX11_remember_18 : decode cX11_remember 18 = .ok (.aload_n 0, 1) := by decide +kernel
theorem dX11_remember_19 : decode cX11_remember 19 = .ok (.getfield 90, 3) := by decide +kernel
theorem dX11_remember_22 : decode cX11_remember 22 = .ok (.iload_n 1, 1) := by decide +kernel
theorem dX11_remember_23 : decode cX11_remember 23 = .ok (.aload_n 0, 1) := by decide +kernel
theorem dX11_remember_24 : decode cX11_remember 24 = .ok (.getfield 90, 3) := by decide +kernel
theorem dX11_remember_27 : decode cX11_remember 27 = .ok (.iload_n 1, 1) := by decide +kernel
theorem dX11_remember_28 : decode cX11_remember 28 = .ok (.sipush 312, 3) := by decide +kernel
theorem dX11_remember_31 : decode cX11_remember 31 = .ok (.iadd, 1) := by decide +kernel
theorem dX11_remember_32 : decode cX11_remember 32 = .ok (.iaload, 1) := by decide +kernel
theorem dX11_remember_33 : decode cX11_remember 33 = .ok (.iastore, 1) := by decide +kernel
theorem dX11_remember_34 : decode cX11_remember 34 = .ok (.iinc 1 1, 3) := by decide +kernel
theorem dX11_remember_37 : decode cX11_remember 37 = .ok (.goto (-26), 3) := by decide +kernel
theorem dX11_remember_40 : decode cX11_remember 40 = .ok (.aload_n 0, 1) := by decide +kernel
theorem dX11_remember_41 : decode cX11_remember 41 = .ok (.dup, 1) := by decide +kernel
theorem dX11_remember_42 : decode cX11_remember 42 = .ok (.getfield 320, 3) := by decide +kernel
theorem dX11_remember_45 : decode cX11_remember 45 = .ok (.iconst 1, 1) := by decide +kernel
theorem dX11_remember_46 : decode cX11_remember 46 = .ok (.isub, 1) := by decide +kernel
theorem dX11_remember_47 : decode cX11_remember 47 = .ok (.putfield 320, 3) := by decide +kernel
theorem dX11_remember_50 : decode cX11_remember 50 = .ok (.iconst 0, 1) := by decide +kernel
theorem dX11_remember_51 : decode cX11_remember 51 = .ok (.istore_n 1, 1) := by decide +kernel
theorem dX11_remember_52 : decode cX11_remember 52 = .ok (.iload_n 1, 1) := by decide +kernel
theorem dX11_remember_53 : decode cX11_remember 53 = .ok (.sipush 312, 3) := by decide +kernel
theorem dX11_remember_56 : decode cX11_remember 56 = .ok (.if_icmp .ge 30, 3) := by decide +kernel
theorem dX11_remember_59 : decode cX11_remember 59 = .ok (.aload_n 0, 1) := by decide +kernel
theorem dX11_remember_60 : decode cX11_remember 60 = .ok (.getfield 90, 3) := by decide +kernel
theorem dX11_remember_63 : decode cX11_remember 63 = .ok (.sipush 312, 3) := by decide +kernel
theorem dX11_remember_66 : decode cX11_remember 66 = .ok (.aload_n 0, 1) := by decide +kernel
theorem dX11_remember_67 : decode cX11_remember 67 = .ok (.getfield 320, 3) := by decide +kernel
theorem dX11_remember_70 : decode cX11_remember 70 = .ok (.imul, 1) := by decide +kernel
theorem dX11_remember_71 : decode cX11_remember 71 = .ok (.iload_n 1, 1) := by decide +kernel
theorem dX11_remember_72 : decode cX11_remember 72 = .ok (.iadd, 1) := by decide +kernel
theorem dX11_remember_73 : decode cX11_remember 73 = .ok (.aload_n 0, 1) := by decide +kernel
theorem dX11_remember_74 : decode cX11_remember 74 = .ok (.getfield 61, 3) := by decide +kernel
theorem dX11_remember_77 : decode cX11_remember 77 = .ok (.iload_n 1, 1) := by decide +kernel
theorem dX11_remember_78 : decode cX11_remember 78 = .ok (.iaload, 1) := by decide +kernel
theorem dX11_remember_79 : decode cX11_remember 79 = .ok (.iastore, 1) := by decide +kernel
theorem dX11_remember_80 : decode cX11_remember 80 = .ok (.iinc 1 1, 3) := by decide +kernel
theorem dX11_remember_83 : decode cX11_remember 83 = .ok (.goto (-31), 3) := by decide +kernel
theorem dX11_remember_86 : decode cX11_remember 86 = .ok (.aload_n 0, 1) := by decide +kernel
theorem dX11_remember_87 : decode cX11_remember 87 = .ok (.dup, 1) := by decide +kernel
theorem dX11_remember_88 : decode cX11_remember 88 = .ok (.getfield 320, 3) := by decide +kernel
theorem dX11_remember_91 : decode cX11_remember 91 = .ok (.iconst 1, 1) := by decide +kernel
theorem dX11_remember_92 : decode cX11_remember 92 = .ok (.iadd, 1) := by decide +kernel
theorem dX11_remember_93 : decode cX11_remember 93 = .ok (.putfield 320, 3) := by decide +kernel
theorem dX11_remember_96 : decode cX11_remember 96 = .ok (.return_, 1) := by decide +kernel
def f_Model_remember_L52  (a : Mem × Int32) : Option ((Mem × Int32) ⊕ (Mem)) :=
  @Prod.casesOn (Mem) (Int32) (fun _ => Option ((Mem × Int32) ⊕ (Mem))) a fun τ z1 =>
  if (312 : Int32) ≤ z1 then
    some (.inr (sI τ 565 44 ((mI τ 565 44) + (1 : Int32))))
  else
    if inb z1 312 then
      if inb (((312 : Int32) * (mI τ 565 44)) + z1) 12480 then
        some (.inl ((sI τ 583 (((312 : Int32) * (mI τ 565 44)) + z1).toNatClampNeg (mI τ 578 z1.toNatClampNeg)), (z1 + (1 : Int32))))
      else none
    else none
def f_Model_remember_L11  (a : Mem × Int32) : Option ((Mem × Int32) ⊕ (Mem)) :=
  @Prod.casesOn (Mem) (Int32) (fun _ => Option ((Mem × Int32) ⊕ (Mem))) a fun τ z1 =>
  if (12168 : Int32) ≤ z1 then
    some (.inr τ)
  else
    if inb (z1 + (312 : Int32)) 12480 then
      if inb z1 12480 then
        some (.inl ((sI τ 583 z1.toNatClampNeg (mI τ 583 (z1 + (312 : Int32)).toNatClampNeg)), (z1 + (1 : Int32))))
      else none
    else none
def f_Model_remember (σ : Mem)  : Option (Mem) :=
  if (mI σ 565 44) = (40 : Int32) then
    (loopF (f_Model_remember_L11 ) FU (σ, (0 : Int32))).bind fun w8 =>
    loopF (f_Model_remember_L52 ) FU ((sI w8 565 44 ((mI w8 565 44) - (1 : Int32))), (0 : Int32))
  else
    loopF (f_Model_remember_L52 ) FU (σ, (0 : Int32))
set_option maxHeartbeats 4000000 in
set_option maxRecDepth 20000 in
theorem gs_Model_remember_L52 (X : Cx θ p s m args c cX11_remember 2 RX11) (hr : meth.sig.returnType = none) (hlk : meth.locks = false)   {r : Mem}  (τ : Mem) (z1 : Int32) (x : (Mem × Int32) ⊕ (Mem)) (h : f_Model_remember_L52  (τ, z1) = some x) (hk : Sum.elim (fun a => @Prod.casesOn (Mem) (Int32) (fun _ => Prop) a fun τ z1 => GB θ p l e 0 s m args below meth c 2 (none, r) 52 [(0, .ref (be θ + 565)), (1, .int z1)] [] τ) (fun b => b = r) x) : GB θ p l e 0 s m args below meth c 2 (none, r) 52 [(0, .ref (be θ + 565)), (1, .int z1)] [] τ := by
  unfold f_Model_remember_L52 at h
  dsimp only at h
  refine g_iload_n X dX11_remember_52 rfl 1 rfl ?_
  refine g_sipush X dX11_remember_53 (v := (312 : Int32)) sp_312 ?_
  refine g_icmp_ge (tgt := 86) X dX11_remember_56 (by decide) (fun c2 => ?_) (fun c2 => ?_)
  · replace h := (if_pos c2).symm.trans h
    refine g_aload_n X dX11_remember_86 rfl 0 rfl ?_
    refine g_dup X dX11_remember_87 rfl ?_
    refine g_get X fl_RX11_320 dX11_remember_88 kd_565 (v := .int (mI τ 565 44)) rfl ?_
    refine g_iconst X dX11_remember_91 (v := (1 : Int32)) ic_1 ?_
    refine g_iadd X dX11_remember_92 ?_
    refine g_putI X fl_RX11_320 dX11_remember_93 kd_565 rfl rfl rfl ?_
    have hk := inr_hk h hk
    have hk : (sI τ 565 44 ((mI τ 565 44) + (1 : Int32))) = r := hk
    subst hk
    exact g_vret X hr hlk dX11_remember_96 rfl
  · replace h := (if_neg c2).symm.trans h
    refine g_aload_n X dX11_remember_59 rfl 0 rfl ?_
    refine g_get X fl_RX11_90 dX11_remember_60 kd_565 (v := .ref (be θ + 583)) rfl ?_
    refine g_sipush X dX11_remember_63 (v := (312 : Int32)) sp_312 ?_
    refine g_aload_n X dX11_remember_66 rfl 0 rfl ?_
    refine g_get X fl_RX11_320 dX11_remember_67 kd_565 (v := .int (mI τ 565 44)) rfl ?_
    refine g_imul X dX11_remember_70 ?_
    refine g_iload_n X dX11_remember_71 rfl 1 rfl ?_
    refine g_iadd X dX11_remember_72 ?_
    refine g_aload_n X dX11_remember_73 rfl 0 rfl ?_
    refine g_get X fl_RX11_61 dX11_remember_74 kd_565 (v := .ref (be θ + 578)) rfl ?_
    refine g_iload_n X dX11_remember_77 rfl 1 rfl ?_
    obtain ⟨g3, h⟩ := ite_some h
    refine g_iald X kd_578 ln_578 (inb_in g3) dX11_remember_78 ?_
    obtain ⟨g4, h⟩ := ite_some h
    refine g_iast X kd_583 ln_583 (inb_in g4) dX11_remember_79 ?_
    refine g_iinc X dX11_remember_80 (kq := 1) rfl (congrArg (HAdd.hAdd _) ic_1) (by decide) (lv' := [(1, .int (z1 + (1 : Int32))), (0, .ref (be θ + 565))]) rfl ?_
    refine g_goto (tgt := 52) X dX11_remember_83 (by decide) ?_
    have hk := inl_hk h hk
    exact g_sub (lv' := [(0, .ref (be θ + 565)), (1, .int (z1 + (1 : Int32)))]) [1, 0] rfl hk
set_option maxHeartbeats 4000000 in
set_option maxRecDepth 20000 in
theorem gl_Model_remember_L52 (X : Cx θ p s m args c cX11_remember 2 RX11) (hr : meth.sig.returnType = none) (hlk : meth.locks = false)   {r : Mem}  (n : Nat) (a : Mem × Int32) (b : Mem) (h : loopF (f_Model_remember_L52 ) n a = some b) (hk : (fun b => b = r) b) : (fun a => @Prod.casesOn (Mem) (Int32) (fun _ => Prop) a fun τ z1 => GB θ p l e 0 s m args below meth c 2 (none, r) 52 [(0, .ref (be θ + 565)), (1, .int z1)] [] τ) a :=
  loopF_by (P := (fun a => @Prod.casesOn (Mem) (Int32) (fun _ => Prop) a fun τ z1 => GB θ p l e 0 s m args below meth c 2 (none, r) 52 [(0, .ref (be θ + 565)), (1, .int z1)] [] τ)) (K := (fun b => b = r)) (fun a x h hk => by obtain ⟨τ, z1⟩ := a; exact gs_Model_remember_L52 X hr hlk   τ z1 x h hk) n a b h hk
set_option maxHeartbeats 4000000 in
set_option maxRecDepth 20000 in
theorem gs_Model_remember_L11 (X : Cx θ p s m args c cX11_remember 2 RX11) (hr : meth.sig.returnType = none) (hlk : meth.locks = false)   {r : Mem}  (τ : Mem) (z1 : Int32) (x : (Mem × Int32) ⊕ (Mem)) (h : f_Model_remember_L11  (τ, z1) = some x) (hk : Sum.elim (fun a => @Prod.casesOn (Mem) (Int32) (fun _ => Prop) a fun τ z1 => GB θ p l e 0 s m args below meth c 2 (none, r) 11 [(0, .ref (be θ + 565)), (1, .int z1)] [] τ) (fun w => GB θ p l e 0 s m args below meth c 2 (none, r) 40 [(0, .ref (be θ + 565))] [] w) x) : GB θ p l e 0 s m args below meth c 2 (none, r) 11 [(0, .ref (be θ + 565)), (1, .int z1)] [] τ := by
  unfold f_Model_remember_L11 at h
  dsimp only at h
  refine g_iload_n X dX11_remember_11 rfl 1 rfl ?_
  refine g_sipush X dX11_remember_12 (v := (12168 : Int32)) sp_12168 ?_
  refine g_icmp_ge (tgt := 40) X dX11_remember_15 (by decide) (fun c5 => ?_) (fun c5 => ?_)
  · replace h := (if_pos c5).symm.trans h
    have hk := inr_hk h hk
    exact g_sub (lv' := [(0, .ref (be θ + 565))]) [0] rfl hk
  · replace h := (if_neg c5).symm.trans h
    refine g_aload_n X dX11_remember_18 rfl 0 rfl ?_
    refine g_get X fl_RX11_90 dX11_remember_19 kd_565 (v := .ref (be θ + 583)) rfl ?_
    refine g_iload_n X dX11_remember_22 rfl 1 rfl ?_
    refine g_aload_n X dX11_remember_23 rfl 0 rfl ?_
    refine g_get X fl_RX11_90 dX11_remember_24 kd_565 (v := .ref (be θ + 583)) rfl ?_
    refine g_iload_n X dX11_remember_27 rfl 1 rfl ?_
    refine g_sipush X dX11_remember_28 (v := (312 : Int32)) sp_312 ?_
    refine g_iadd X dX11_remember_31 ?_
    obtain ⟨g6, h⟩ := ite_some h
    refine g_iald X kd_583 ln_583 (inb_in g6) dX11_remember_32 ?_
    obtain ⟨g7, h⟩ := ite_some h
    refine g_iast X kd_583 ln_583 (inb_in g7) dX11_remember_33 ?_
    refine g_iinc X dX11_remember_34 (kq := 1) rfl (congrArg (HAdd.hAdd _) ic_1) (by decide) (lv' := [(1, .int (z1 + (1 : Int32))), (0, .ref (be θ + 565))]) rfl ?_
    refine g_goto (tgt := 11) X dX11_remember_37 (by decide) ?_
    have hk := inl_hk h hk
    exact g_sub (lv' := [(0, .ref (be θ + 565)), (1, .int (z1 + (1 : Int32)))]) [1, 0] rfl hk
set_option maxHeartbeats 4000000 in
set_option maxRecDepth 20000 in
theorem gl_Model_remember_L11 (X : Cx θ p s m args c cX11_remember 2 RX11) (hr : meth.sig.returnType = none) (hlk : meth.locks = false)   {r : Mem}  (n : Nat) (a : Mem × Int32) (b : Mem) (h : loopF (f_Model_remember_L11 ) n a = some b) (hk : (fun w => GB θ p l e 0 s m args below meth c 2 (none, r) 40 [(0, .ref (be θ + 565))] [] w) b) : (fun a => @Prod.casesOn (Mem) (Int32) (fun _ => Prop) a fun τ z1 => GB θ p l e 0 s m args below meth c 2 (none, r) 11 [(0, .ref (be θ + 565)), (1, .int z1)] [] τ) a :=
  loopF_by (P := (fun a => @Prod.casesOn (Mem) (Int32) (fun _ => Prop) a fun τ z1 => GB θ p l e 0 s m args below meth c 2 (none, r) 11 [(0, .ref (be θ + 565)), (1, .int z1)] [] τ)) (K := (fun w => GB θ p l e 0 s m args below meth c 2 (none, r) 40 [(0, .ref (be θ + 565))] [] w)) (fun a x h hk => by obtain ⟨τ, z1⟩ := a; exact gs_Model_remember_L11 X hr hlk   τ z1 x h hk) n a b h hk
set_option maxHeartbeats 4000000 in
set_option maxRecDepth 20000 in
theorem g_Model_remember (X : Cx θ p s m args c cX11_remember 2 RX11) (hr : meth.sig.returnType = none) (hlk : meth.locks = false)  {σ : Mem}  {r : Mem}  (h : f_Model_remember σ  = some r) : GB θ p l e 0 s m args below meth c 2 (none, r) 0 [(0, .ref (be θ + 565))] [] σ := by
  unfold f_Model_remember at h
  refine g_aload_n X dX11_remember_0 rfl 0 rfl ?_
  refine g_get X fl_RX11_320 dX11_remember_1 kd_565 (v := .int (mI σ 565 44)) rfl ?_
  refine g_bipush X dX11_remember_4 (v := (40 : Int32)) bp_40 ?_
  refine g_icmp_ne (tgt := 50) X dX11_remember_6 (by decide) (fun c1 => ?_) (fun c1 => ?_)
  · replace h := (if_neg c1).symm.trans h
    refine g_iconst X dX11_remember_50 (v := (0 : Int32)) ic_0 ?_
    refine g_istore_n X dX11_remember_51 rfl (by decide) (lv' := [(1, .int (0 : Int32)), (0, .ref (be θ + 565))]) rfl ?_
    exact g_sub (lv' := [(0, .ref (be θ + 565)), (1, .int (0 : Int32))]) [1, 0] rfl (gl_Model_remember_L52 X hr hlk    FU _ _ h rfl)
  · replace h := (if_pos c1).symm.trans h
    refine g_iconst X dX11_remember_9 (v := (0 : Int32)) ic_0 ?_
    refine g_istore_n X dX11_remember_10 rfl (by decide) (lv' := [(1, .int (0 : Int32)), (0, .ref (be θ + 565))]) rfl ?_
    obtain ⟨w8, hq8, h⟩ := Option.bind_eq_some_iff.mp h
    refine g_sub (lv' := [(0, .ref (be θ + 565)), (1, .int (0 : Int32))]) [1, 0] rfl (gl_Model_remember_L11 X hr hlk    FU _ w8 hq8 ?_)
    refine g_aload_n X dX11_remember_40 rfl 0 rfl ?_
    refine g_dup X dX11_remember_41 rfl ?_
    refine g_get X fl_RX11_320 dX11_remember_42 kd_565 (v := .int (mI w8 565 44)) rfl ?_
    refine g_iconst X dX11_remember_45 (v := (1 : Int32)) ic_1 ?_
    refine g_isub X dX11_remember_46 ?_
    refine g_putI X fl_RX11_320 dX11_remember_47 kd_565 rfl rfl rfl ?_
    refine g_iconst X dX11_remember_50 (v := (0 : Int32)) ic_0 ?_
    refine g_istore_n X dX11_remember_51 rfl (by decide) (lv' := [(1, .int (0 : Int32)), (0, .ref (be θ + 565))]) rfl ?_
    exact g_sub (lv' := [(0, .ref (be θ + 565)), (1, .int (0 : Int32))]) [1, 0] rfl (gl_Model_remember_L52 X hr hlk    FU _ _ h rfl)
set_option maxHeartbeats 4000000 in
set_option maxRecDepth 20000 in
theorem c_Model_remember {θ : Th} {l : Launch} {σ : Mem}  {r : Mem}  (h : f_Model_remember σ  = some r) : Cn θ l yX11_remember cX11_remember 2 (none) 0 0 0 [.ref (be θ + 565)] σ (none, r) :=
  Cn.of (by decide) (Nat.le_of_ble_eq_true rfl) (fun p e s m below meth c X hr hlk => g_Model_remember X hr hlk  h)
theorem dX11_refused_0 : decode cX11_refused 0 = .ok (.aload_n 0, 1) := by decide +kernel
theorem dX11_refused_1 : decode cX11_refused 1 = .ok (.getfield 67, 3) := by decide +kernel
theorem dX11_refused_4 : decode cX11_refused 4 = .ok (.iload_n 1, 1) := by decide +kernel
theorem dX11_refused_5 : decode cX11_refused 5 = .ok (.dup2, 1) := by decide +kernel
theorem dX11_refused_6 : decode cX11_refused 6 = .ok (.iaload, 1) := by decide +kernel
theorem dX11_refused_7 : decode cX11_refused 7 = .ok (.iconst 1, 1) := by decide +kernel
theorem dX11_refused_8 : decode cX11_refused 8 = .ok (.iadd, 1) := by decide +kernel
theorem dX11_refused_9 : decode cX11_refused 9 = .ok (.iastore, 1) := by decide +kernel
theorem dX11_refused_10 : decode cX11_refused 10 = .ok (.iconst (-1), 1) := by decide +kernel
theorem dX11_refused_11 : decode cX11_refused 11 = .ok (.ireturn, 1) := by decide +kernel
def f_Model_refused (σ : Mem) (x1 : Int32) : Option (Int32 × Mem) :=
  if inb x1 6 then
    some ((-1 : Int32), (sI σ 580 x1.toNatClampNeg ((mI σ 580 x1.toNatClampNeg) + (1 : Int32))))
  else none
set_option maxHeartbeats 4000000 in
set_option maxRecDepth 20000 in
theorem g_Model_refused (X : Cx θ p s m args c cX11_refused 2 RX11) (hr : meth.sig.returnType = some .int) (hlk : meth.locks = false)  {σ : Mem} {x1 : Int32} {r : Int32 × Mem}  (h : f_Model_refused σ x1 = some r) : GB θ p l e 0 s m args below meth c 2 (some (.int r.1), r.2) 0 [(0, .ref (be θ + 565)), (1, .int x1)] [] σ := by
  unfold f_Model_refused at h
  refine g_aload_n X dX11_refused_0 rfl 0 rfl ?_
  refine g_get X fl_RX11_67 dX11_refused_1 kd_565 (v := .ref (be θ + 580)) rfl ?_
  refine g_iload_n X dX11_refused_4 rfl 1 rfl ?_
  refine g_dup2 X dX11_refused_5 rfl rfl ?_
  obtain ⟨g1, h⟩ := ite_some h
  refine g_iald X kd_580 ln_580 (inb_in g1) dX11_refused_6 ?_
  refine g_iconst X dX11_refused_7 (v := (1 : Int32)) ic_1 ?_
  refine g_iadd X dX11_refused_8 ?_
  refine g_iast X kd_580 ln_580 (inb_in g1) dX11_refused_9 ?_
  refine g_iconst X dX11_refused_10 (v := (-1 : Int32)) ic_m1 ?_
  exact g_iret X hr hlk dX11_refused_11 (by cases h; rfl)
set_option maxHeartbeats 4000000 in
set_option maxRecDepth 20000 in
theorem c_Model_refused {θ : Th} {l : Launch} {σ : Mem} {x1 : Int32} {r : Int32 × Mem}  (h : f_Model_refused σ x1 = some r) : Cn θ l yX11_refused cX11_refused 2 (some .int) 0 0 0 [.ref (be θ + 565), .int x1] σ (some (.int r.1), r.2) :=
  Cn.of (by decide) (Nat.le_of_ble_eq_true rfl) (fun p e s m below meth c X hr hlk => g_Model_refused X hr hlk  h)
theorem dX11_stops_0 : decode cX11_stops 0 = .ok (.aload_n 0, 1) := by decide +kernel
theorem dX11_stops_1 : decode cX11_stops 1 = .ok (.iload_n 3, 1) := by decide +kernel
theorem dX11_stops_2 : decode cX11_stops 2 = .ok (.invokevirtual 412, 3) := by decide +kernel
theorem dX11_stops_5 : decode cX11_stops 5 = .ok (.ifCond .eq 30, 3) := by decide +kernel
theorem dX11_stops_8 : decode cX11_stops 8 = .ok (.iload_n 2, 1) := by decide +kernel
theorem dX11_stops_9 : decode cX11_stops 9 = .ok (.ifCond .ne 12, 3) := by decide +kernel
theorem dX11_stops_12 : decode cX11_stops 12 = .ok (.aload_n 0, 1) := by decide +kernel
theorem dX11_stops_13 : decode cX11_stops 13 = .ok (.iload 4, 2) := by decide +kernel
theorem dX11_stops_15 : decode cX11_stops 15 = .ok (.invokevirtual 326, 3) := by decide +kernel
theorem dX11_stops_18 : decode cX11_stops 18 = .ok (.ifCond .eq 17, 3) := by decide +kernel
theorem dX11_stops_21 : decode cX11_stops 21 = .ok (.iload_n 2, 1) := by decide +kernel
theorem dX11_stops_22 : decode cX11_stops 22 = .ok (.iconst 2, 1) := by decide +kernel
theorem dX11_stops_23 : decode cX11_stops 23 = .ok (.if_icmp .ne 14, 3) := by decide +kernel
theorem dX11_stops_26 : decode cX11_stops 26 = .ok (.aload_n 0, 1) := by decide +kernel
theorem dX11_stops_27 : decode cX11_stops 27 = .ok (.iload 4, 2) := by decide +kernel
theorem dX11_stops_29 : decode cX11_stops 29 = .ok (.invokevirtual 412, 3) := by decide +kernel
theorem dX11_stops_32 : decode cX11_stops 32 = .ok (.ifCond .ne 5, 3) := by decide +kernel
theorem dX11_stops_35 : decode cX11_stops 35 = .ok (.iconst 0, 1) := by decide +kernel
theorem dX11_stops_36 : decode cX11_stops 36 = .ok (.ireturn, 1) := by decide +kernel
theorem dX11_stops_37 : decode cX11_stops 37 = .ok (.aload_n 0, 1) := by decide +kernel
theorem dX11_stops_38 : decode cX11_stops 38 = .ok (.aload_n 1, 1) := by decide +kernel
theorem dX11_stops_39 : decode cX11_stops 39 = .ok (.iload_n 3, 1) := by decide +kernel
theorem dX11_stops_40 : decode cX11_stops 40 = .ok (.invokevirtual 361, 3) := by decide +kernel
theorem dX11_stops_43 : decode cX11_stops 43 = .ok (.istore 5, 2) := by decide +kernel
theorem dX11_stops_45 : decode cX11_stops 45 = .ok (.iload_n 2, 1) := by decide +kernel
theorem dX11_stops_46 : decode cX11_stops 46 = .ok (.ifCond .ne 29, 3) := by decide +kernel
theorem dX11_stops_49 : decode cX11_stops 49 = .ok (.aload_n 0, 1) := by decide +kernel
theorem dX11_stops_50 : decode cX11_stops 50 = .ok (.aload_n 1, 1) := by decide +kernel
theorem dX11_stops_51 : decode cX11_stops 51 = .ok (.iload 4, 2) := by decide +kernel
theorem dX11_stops_53 : decode cX11_stops 53 = .ok (.invokevirtual 385, 3) := by decide +kernel
theorem dX11_stops_56 : decode cX11_stops 56 = .ok (.ifCond .ne 7, 3) := by decide +kernel
theorem dX11_stops_59 : decode cX11_stops 59 = .ok (.iconst 2, 1) := by decide +kernel
theorem dX11_stops_60 : decode cX11_stops 60 = .ok (.goto 14, 3) := by decide +kernel
theorem dX11_stops_63 : decode cX11_stops 63 = .ok (.iload 5, 2) := by decide +kernel
theorem dX11_stops_65 : decode cX11_stops 65 = .ok (.iconst (-1), 1) := by decide +kernel
theorem dX11_stops_66 : decode cX11_stops 66 = .ok (.if_icmp .eq 7, 3) := by decide +kernel
theorem dX11_stops_69 : decode cX11_stops 69 = .ok (.iconst 3, 1) := by decide +kernel
theorem dX11_stops_70 : decode cX11_stops 70 = .ok (.goto 4, 3) := by decide +kernel
theorem dX11_stops_73 : decode cX11_stops 73 = .ok (.iconst (-1), 1) := by decide +kernel
theorem dX11_stops_74 : decode cX11_stops 74 = .ok (.ireturn, 1) := by decide +kernel
theorem dX11_stops_75 : decode cX11_stops 75 = .ok (.iload_n 2, 1) := by decide +kernel
theorem dX11_stops_76 : decode cX11_stops 76 = .ok (.iconst 2, 1) := by decide +kernel
theorem dX11_stops_77 : decode cX11_stops 77 = .ok (.if_icmp .ne 11, 3) := by decide +kernel
theorem dX11_stops_80 : decode cX11_stops 80 = .ok (.iload_n 3, 1) := by decide +kernel
theorem dX11_stops_81 : decode cX11_stops 81 = .ok (.iload 4, 2) := by decide +kernel
theorem dX11_stops_83 : decode cX11_stops 83 = .ok (.if_icmp .ne 5, 3) := by decide +kernel
theorem dX11_stops_86 : decode cX11_stops 86 = .ok (.iconst 1, 1) := by decide +kernel
theorem dX11_stops_87 : decode cX11_stops 87 = .ok (.ireturn, 1) := by decide +kernel
theorem dX11_stops_88 : decode cX11_stops 88 = .ok (.iload 5, 2) := by decide +kernel
theorem dX11_stops_90 : decode cX11_stops 90 = .ok (.iconst (-1), 1) := by decide +kernel
theorem dX11_stops_91 : decode cX11_stops 91 = .ok (.if_icmp .ne 5, 3) := by decide +kernel
theorem dX11_stops_94 : decode cX11_stops 94 = .ok (.iconst 2, 1) := by decide +kernel
theorem dX11_stops_95 : decode cX11_stops 95 = .ok (.ireturn, 1) := by decide +kernel
theorem dX11_stops_96 : decode cX11_stops 96 = .ok (.iload_n 2, 1) := by decide +kernel
theorem dX11_stops_97 : decode cX11_stops 97 = .ok (.iconst 2, 1) := by decide +kernel
theorem dX11_stops_98 : decode cX11_stops 98 = .ok (.if_icmp .ne 16, 3) := by decide +kernel
theorem dX11_stops_101 : decode cX11_stops 101 = .ok (.aload_n 0, 1) := by decide +kernel
theorem dX11_stops_102 : decode cX11_stops 102 = .ok (.aload_n 1, 1) := by decide +kernel
theorem dX11_stops_103 : decode cX11_stops 103 = .ok (.iload 4, 2) := by decide +kernel
theorem dX11_stops_105 : decode cX11_stops 105 = .ok (.invokevirtual 361, 3) := by decide +kernel
theorem dX11_stops_108 : decode cX11_stops 108 = .ok (.iconst (-1), 1) := by decide +kernel
theorem dX11_stops_109 : decode cX11_stops 109 = .ok (.if_icmp .eq 5, 3) := by decide +kernel
theorem dX11_stops_112 : decode cX11_stops 112 = .ok (.iconst 3, 1) := by decide +kernel
theorem dX11_stops_113 : decode cX11_stops 113 = .ok (.ireturn, 1) := by decide +kernel
theorem dX11_stops_114 : decode cX11_stops 114 = .ok (.iload_n 2, 1) := by decide +kernel
theorem dX11_stops_115 : decode cX11_stops 115 = .ok (.iconst 3, 1) := by decide +kernel
theorem dX11_stops_116 : decode cX11_stops 116 = .ok (.if_icmp .ne 25, 3) := by decide +kernel
theorem dX11_stops_119 : decode cX11_stops 119 = .ok (.aload_n 1, 1) := by decide +kernel
theorem dX11_stops_120 : decode cX11_stops 120 = .ok (.bipush 24, 2) := by decide +kernel
theorem dX11_stops_122 : decode cX11_stops 122 = .ok (.iload_n 3, 1) := by decide +kernel
theorem dX11_stops_123 : decode cX11_stops 123 = .ok (.iadd, 1) := by decide +kernel
theorem dX11_stops_124 : decode cX11_stops 124 = .ok (.iaload, 1) := by decide +kernel
theorem dX11_stops_125 : decode cX11_stops 125 = .ok (.aload_n 0, 1) := by decide +kernel
theorem dX11_stops_126 : decode cX11_stops 126 = .ok (.getfield 43, 3) := by decide +kernel
theorem dX11_stops_129 : decode cX11_stops 129 = .ok (.iconst 3, 1) := by decide +kernel
theorem dX11_stops_130 : decode cX11_stops 130 = .ok (.iload 5, 2) := by decide +kernel
theorem dX11_stops_132 : decode cX11_stops 132 = .ok (.imul, 1) := by decide +kernel
theorem dX11_stops_133 : decode cX11_stops 133 = .ok (.iaload, 1) := by decide +kernel
theorem dX11_stops_134 : decode cX11_stops 134 = .ok (.if_icmp .ge 7, 3) := by decide +kernel
theorem dX11_stops_137 : decode cX11_stops 137 = .ok (.iconst 4, 1) := by decide +kernel
theorem dX11_stops_138 : decode cX11_stops 138 = .ok (.goto 4, 3) := by decide +kernel
theorem dX11_stops_141 : decode cX11_stops 141 = .ok (.iconst (-1), 1) := by decide +kernel
theorem dX11_stops_142 : decode cX11_stops 142 = .ok (.ireturn, 1) := by decide +kernel
def f_Model_stops_J114 (σ : Mem) (x1 : Nat) (x2 : Int32) (x3 : Int32) (x4 : Int32) (y5 : Int32) : Option (Int32) :=
  if x2 = (3 : Int32) then
    if inb ((24 : Int32) + x3) (ln x1) then
      if inb ((3 : Int32) * y5) 24 then
        if (mI σ 572 ((3 : Int32) * y5).toNatClampNeg) ≤ (mI σ x1 ((24 : Int32) + x3).toNatClampNeg) then
          some (-1 : Int32)
        else
          some (4 : Int32)
      else none
    else none
  else
    some (-1 : Int32)
def f_Model_stops_J88 (σ : Mem) (x1 : Nat) (x2 : Int32) (x3 : Int32) (x4 : Int32) (y5 : Int32) : Option (Int32) :=
  if y5 = (-1 : Int32) then
    some (2 : Int32)
  else
    if x2 = (2 : Int32) then
      (f_Model_holds σ x1 x4).bind fun q14 =>
      if q14 = (-1 : Int32) then
        f_Model_stops_J114 σ x1 x2 x3 x4 y5
      else
        some (3 : Int32)
    else
      f_Model_stops_J114 σ x1 x2 x3 x4 y5
def f_Model_stops_J37 (σ : Mem) (x1 : Nat) (x2 : Int32) (x3 : Int32) (x4 : Int32) : Option (Int32) :=
  (f_Model_holds σ x1 x3).bind fun q5 =>
  if x2 = (0 : Int32) then
    (f_Model_isFree σ x1 x4).bind fun q17 =>
    if q17 = (0 : Int32) then
      some (2 : Int32)
    else
      if q5 = (-1 : Int32) then
        some (-1 : Int32)
      else
        some (3 : Int32)
  else
    if x2 = (2 : Int32) then
      if x3 = x4 then
        some (1 : Int32)
      else
        f_Model_stops_J88 σ x1 x2 x3 x4 q5
    else
      f_Model_stops_J88 σ x1 x2 x3 x4 q5
def f_Model_stops_J21 (σ : Mem) (x1 : Nat) (x2 : Int32) (x3 : Int32) (x4 : Int32) : Option (Int32) :=
  if x2 = (2 : Int32) then
    (f_Model_isBuyer σ x4).bind fun q20 =>
    if q20 = (0 : Int32) then
      some (0 : Int32)
    else
      f_Model_stops_J37 σ x1 x2 x3 x4
  else
    f_Model_stops_J37 σ x1 x2 x3 x4
def f_Model_stops (σ : Mem) (x1 : Nat) (x2 : Int32) (x3 : Int32) (x4 : Int32) : Option (Int32) :=
  (f_Model_isBuyer σ x3).bind fun q1 =>
  if q1 = (0 : Int32) then
    some (0 : Int32)
  else
    if x2 = (0 : Int32) then
      (f_Model_isThing σ x4).bind fun q22 =>
      if q22 = (0 : Int32) then
        some (0 : Int32)
      else
        f_Model_stops_J21 σ x1 x2 x3 x4
    else
      f_Model_stops_J21 σ x1 x2 x3 x4
set_option maxHeartbeats 4000000 in
set_option maxRecDepth 20000 in
theorem g_Model_stops_J114 (X : Cx θ p s m args c cX11_stops 6 RX11) (hr : meth.sig.returnType = some .int) (hlk : meth.locks = false)  {σ : Mem} {x1 : Nat} {x2 : Int32} {x3 : Int32} {x4 : Int32} {y5 : Int32} {r : Int32} (h1 : kd x1 = 13) (h : f_Model_stops_J114 σ x1 x2 x3 x4 y5 = some r) : GB θ p l e 2 s m args below meth c 6 (some (.int r), σ) 114 [(0, .ref (be θ + 565)), (1, .ref (be θ + x1)), (2, .int x2), (3, .int x3), (4, .int x4), (5, .int y5)] [] σ := by
  unfold f_Model_stops_J114 at h
  refine g_iload_n X dX11_stops_114 rfl 2 rfl ?_
  refine g_iconst X dX11_stops_115 (v := (3 : Int32)) ic_3 ?_
  refine g_icmp_ne (tgt := 141) X dX11_stops_116 (by decide) (fun c10 => ?_) (fun c10 => ?_)
  · replace h := (if_neg c10).symm.trans h
    refine g_iconst X dX11_stops_141 (v := (-1 : Int32)) ic_m1 ?_
    exact g_iret X hr hlk dX11_stops_142 (by cases h; rfl)
  · replace h := (if_pos c10).symm.trans h
    refine g_aload_n X dX11_stops_119 rfl 1 rfl ?_
    refine g_bipush X dX11_stops_120 (v := (24 : Int32)) bp_24 ?_
    refine g_iload_n X dX11_stops_122 rfl 3 rfl ?_
    refine g_iadd X dX11_stops_123 ?_
    obtain ⟨g11, h⟩ := ite_some h
    refine g_iald X h1 rfl (inb_in g11) dX11_stops_124 ?_
    refine g_aload_n X dX11_stops_125 rfl 0 rfl ?_
    refine g_get X fl_RX11_43 dX11_stops_126 kd_565 (v := .ref (be θ + 572)) rfl ?_
    refine g_iconst X dX11_stops_129 (v := (3 : Int32)) ic_3 ?_
    refine g_iload X dX11_stops_130 5 rfl ?_
    refine g_imul X dX11_stops_132 ?_
    obtain ⟨g12, h⟩ := ite_some h
    refine g_iald X kd_572 ln_572 (inb_in g12) dX11_stops_133 ?_
    refine g_icmp_ge (tgt := 141) X dX11_stops_134 (by decide) (fun c13 => ?_) (fun c13 => ?_)
    · replace h := (if_pos c13).symm.trans h
      refine g_iconst X dX11_stops_141 (v := (-1 : Int32)) ic_m1 ?_
      exact g_iret X hr hlk dX11_stops_142 (by cases h; rfl)
    · replace h := (if_neg c13).symm.trans h
      refine g_iconst X dX11_stops_137 (v := (4 : Int32)) ic_4 ?_
      refine g_goto (tgt := 142) X dX11_stops_138 (by decide) ?_
      exact g_iret X hr hlk dX11_stops_142 (by cases h; rfl)
set_option maxHeartbeats 4000000 in
set_option maxRecDepth 20000 in
theorem g_Model_stops_J88 (X : Cx θ p s m args c cX11_stops 6 RX11) (hr : meth.sig.returnType = some .int) (hlk : meth.locks = false)  {σ : Mem} {x1 : Nat} {x2 : Int32} {x3 : Int32} {x4 : Int32} {y5 : Int32} {r : Int32} (h1 : kd x1 = 13) (h : f_Model_stops_J88 σ x1 x2 x3 x4 y5 = some r) : GB θ p l e 2 s m args below meth c 6 (some (.int r), σ) 88 [(0, .ref (be θ + 565)), (1, .ref (be θ + x1)), (2, .int x2), (3, .int x3), (4, .int x4), (5, .int y5)] [] σ := by
  unfold f_Model_stops_J88 at h
  refine g_iload X dX11_stops_88 5 rfl ?_
  refine g_iconst X dX11_stops_90 (v := (-1 : Int32)) ic_m1 ?_
  refine g_icmp_ne (tgt := 96) X dX11_stops_91 (by decide) (fun c8 => ?_) (fun c8 => ?_)
  · replace h := (if_neg c8).symm.trans h
    refine g_iload_n X dX11_stops_96 rfl 2 rfl ?_
    refine g_iconst X dX11_stops_97 (v := (2 : Int32)) ic_2 ?_
    refine g_icmp_ne (tgt := 114) X dX11_stops_98 (by decide) (fun c9 => ?_) (fun c9 => ?_)
    · replace h := (if_neg c9).symm.trans h
      exact g_sub (lv' := [(0, .ref (be θ + 565)), (1, .ref (be θ + x1)), (2, .int x2), (3, .int x3), (4, .int x4), (5, .int y5)]) [0, 1, 2, 3, 4, 5] rfl (g_Model_stops_J114 X hr hlk  h1  h)
    · replace h := (if_pos c9).symm.trans h
      refine g_aload_n X dX11_stops_101 rfl 0 rfl ?_
      refine g_aload_n X dX11_stops_102 rfl 1 rfl ?_
      refine g_iload X dX11_stops_103 4 rfl ?_
      obtain ⟨q14, hq14, h⟩ := Option.bind_eq_some_iff.mp h
      refine g_cV X (c_Model_holds h1 hq14) lk_RX11_361 my_X11_holds (a := 565) (ci := 11) kd_565 (by decide) rfl (As := [.ref (be θ + x1), .int x4]) (rest := []) rfl rfl (Nat.le_of_ble_eq_true rfl) ⟨(Nat.le_of_ble_eq_true rfl), (Nat.le_of_ble_eq_true rfl)⟩ ⟨(Nat.le_of_ble_eq_true rfl), (Nat.le_of_ble_eq_true rfl)⟩ dX11_stops_105 (st' := [.int q14]) (σ' := σ) rfl rfl ?_
      refine g_iconst X dX11_stops_108 (v := (-1 : Int32)) ic_m1 ?_
      refine g_icmp_eq (tgt := 114) X dX11_stops_109 (by decide) (fun c15 => ?_) (fun c15 => ?_)
      · replace h := (if_pos c15).symm.trans h
        exact g_sub (lv' := [(0, .ref (be θ + 565)), (1, .ref (be θ + x1)), (2, .int x2), (3, .int x3), (4, .int x4), (5, .int y5)]) [0, 1, 2, 3, 4, 5] rfl (g_Model_stops_J114 X hr hlk  h1  h)
      · replace h := (if_neg c15).symm.trans h
        refine g_iconst X dX11_stops_112 (v := (3 : Int32)) ic_3 ?_
        exact g_iret X hr hlk dX11_stops_113 (by cases h; rfl)
  · replace h := (if_pos c8).symm.trans h
    refine g_iconst X dX11_stops_94 (v := (2 : Int32)) ic_2 ?_
    exact g_iret X hr hlk dX11_stops_95 (by cases h; rfl)
set_option maxHeartbeats 4000000 in
set_option maxRecDepth 20000 in
theorem g_Model_stops_J37 (X : Cx θ p s m args c cX11_stops 6 RX11) (hr : meth.sig.returnType = some .int) (hlk : meth.locks = false)  {σ : Mem} {x1 : Nat} {x2 : Int32} {x3 : Int32} {x4 : Int32} {r : Int32} (h1 : kd x1 = 13) (h : f_Model_stops_J37 σ x1 x2 x3 x4 = some r) : GB θ p l e 2 s m args below meth c 6 (some (.int r), σ) 37 [(0, .ref (be θ + 565)), (1, .ref (be θ + x1)), (2, .int x2), (3, .int x3), (4, .int x4)] [] σ := by
  unfold f_Model_stops_J37 at h
  refine g_aload_n X dX11_stops_37 rfl 0 rfl ?_
  refine g_aload_n X dX11_stops_38 rfl 1 rfl ?_
  refine g_iload_n X dX11_stops_39 rfl 3 rfl ?_
  obtain ⟨q5, hq5, h⟩ := Option.bind_eq_some_iff.mp h
  refine g_cV X (c_Model_holds h1 hq5) lk_RX11_361 my_X11_holds (a := 565) (ci := 11) kd_565 (by decide) rfl (As := [.ref (be θ + x1), .int x3]) (rest := []) rfl rfl (Nat.le_of_ble_eq_true rfl) ⟨(Nat.le_of_ble_eq_true rfl), (Nat.le_of_ble_eq_true rfl)⟩ ⟨(Nat.le_of_ble_eq_true rfl), (Nat.le_of_ble_eq_true rfl)⟩ dX11_stops_40 (st' := [.int q5]) (σ' := σ) rfl rfl ?_
  refine g_istore X dX11_stops_43 (by decide) (lv' := [(5, .int q5), (0, .ref (be θ + 565)), (1, .ref (be θ + x1)), (2, .int x2), (3, .int x3), (4, .int x4)]) rfl ?_
  refine g_iload_n X dX11_stops_45 rfl 3 rfl ?_
  refine g_if_ne (tgt := 75) X dX11_stops_46 (by decide) (fun c6 => ?_) (fun c6 => ?_)
  · replace h := (if_neg c6).symm.trans h
    refine g_iload_n X dX11_stops_75 rfl 3 rfl ?_
    refine g_iconst X dX11_stops_76 (v := (2 : Int32)) ic_2 ?_
    refine g_icmp_ne (tgt := 88) X dX11_stops_77 (by decide) (fun c7 => ?_) (fun c7 => ?_)
    · replace h := (if_neg c7).symm.trans h
      exact g_sub (lv' := [(0, .ref (be θ + 565)), (1, .ref (be θ + x1)), (2, .int x2), (3, .int x3), (4, .int x4), (5, .int q5)]) [1, 2, 3, 4, 5, 0] rfl (g_Model_stops_J88 X hr hlk  h1  h)
    · replace h := (if_pos c7).symm.trans h
      refine g_iload_n X dX11_stops_80 rfl 4 rfl ?_
      refine g_iload X dX11_stops_81 5 rfl ?_
      refine g_icmp_ne (tgt := 88) X dX11_stops_83 (by decide) (fun c16 => ?_) (fun c16 => ?_)
      · replace h := (if_neg c16).symm.trans h
        exact g_sub (lv' := [(0, .ref (be θ + 565)), (1, .ref (be θ + x1)), (2, .int x2), (3, .int x3), (4, .int x4), (5, .int q5)]) [1, 2, 3, 4, 5, 0] rfl (g_Model_stops_J88 X hr hlk  h1  h)
      · replace h := (if_pos c16).symm.trans h
        refine g_iconst X dX11_stops_86 (v := (1 : Int32)) ic_1 ?_
        exact g_iret X hr hlk dX11_stops_87 (by cases h; rfl)
  · replace h := (if_pos c6).symm.trans h
    refine g_aload_n X dX11_stops_49 rfl 1 rfl ?_
    refine g_aload_n X dX11_stops_50 rfl 2 rfl ?_
    refine g_iload X dX11_stops_51 5 rfl ?_
    obtain ⟨q17, hq17, h⟩ := Option.bind_eq_some_iff.mp h
    refine g_cV X (c_Model_isFree h1 hq17) lk_RX11_385 my_X11_isFree (a := 565) (ci := 11) kd_565 (by decide) rfl (As := [.ref (be θ + x1), .int x4]) (rest := []) rfl rfl (Nat.le_of_ble_eq_true rfl) ⟨(Nat.le_of_ble_eq_true rfl), (Nat.le_of_ble_eq_true rfl)⟩ ⟨(Nat.le_of_ble_eq_true rfl), (Nat.le_of_ble_eq_true rfl)⟩ dX11_stops_53 (st' := [.int q17]) (σ' := σ) rfl rfl ?_
    refine g_if_ne (tgt := 63) X dX11_stops_56 (by decide) (fun c18 => ?_) (fun c18 => ?_)
    · replace h := (if_neg c18).symm.trans h
      refine g_iload X dX11_stops_63 0 rfl ?_
      refine g_iconst X dX11_stops_65 (v := (-1 : Int32)) ic_m1 ?_
      refine g_icmp_eq (tgt := 73) X dX11_stops_66 (by decide) (fun c19 => ?_) (fun c19 => ?_)
      · replace h := (if_pos c19).symm.trans h
        refine g_iconst X dX11_stops_73 (v := (-1 : Int32)) ic_m1 ?_
        exact g_iret X hr hlk dX11_stops_74 (by cases h; rfl)
      · replace h := (if_neg c19).symm.trans h
        refine g_iconst X dX11_stops_69 (v := (3 : Int32)) ic_3 ?_
        refine g_goto (tgt := 74) X dX11_stops_70 (by decide) ?_
        exact g_iret X hr hlk dX11_stops_74 (by cases h; rfl)
    · replace h := (if_pos c18).symm.trans h
      refine g_iconst X dX11_stops_59 (v := (2 : Int32)) ic_2 ?_
      refine g_goto (tgt := 74) X dX11_stops_60 (by decide) ?_
      exact g_iret X hr hlk dX11_stops_74 (by cases h; rfl)
set_option maxHeartbeats 4000000 in
set_option maxRecDepth 20000 in
theorem g_Model_stops_J21 (X : Cx θ p s m args c cX11_stops 6 RX11) (hr : meth.sig.returnType = some .int) (hlk : meth.locks = false)  {σ : Mem} {x1 : Nat} {x2 : Int32} {x3 : Int32} {x4 : Int32} {r : Int32} (h1 : kd x1 = 13) (h : f_Model_stops_J21 σ x1 x2 x3 x4 = some r) : GB θ p l e 2 s m args below meth c 6 (some (.int r), σ) 21 [(0, .ref (be θ + 565)), (1, .ref (be θ + x1)), (2, .int x2), (3, .int x3), (4, .int x4)] [] σ := by
  unfold f_Model_stops_J21 at h
  refine g_iload_n X dX11_stops_21 rfl 2 rfl ?_
  refine g_iconst X dX11_stops_22 (v := (2 : Int32)) ic_2 ?_
  refine g_icmp_ne (tgt := 37) X dX11_stops_23 (by decide) (fun c4 => ?_) (fun c4 => ?_)
  · replace h := (if_neg c4).symm.trans h
    exact g_sub (lv' := [(0, .ref (be θ + 565)), (1, .ref (be θ + x1)), (2, .int x2), (3, .int x3), (4, .int x4)]) [0, 1, 2, 3, 4] rfl (g_Model_stops_J37 X hr hlk  h1  h)
  · replace h := (if_pos c4).symm.trans h
    refine g_aload_n X dX11_stops_26 rfl 0 rfl ?_
    refine g_iload X dX11_stops_27 4 rfl ?_
    obtain ⟨q20, hq20, h⟩ := Option.bind_eq_some_iff.mp h
    refine g_cV X (c_Model_isBuyer  hq20) lk_RX11_412 my_X11_isBuyer (a := 565) (ci := 11) kd_565 (by decide) rfl (As := [.int x4]) (rest := []) rfl rfl (Nat.le_of_ble_eq_true rfl) ⟨(Nat.le_of_ble_eq_true rfl), (Nat.le_of_ble_eq_true rfl)⟩ ⟨(Nat.le_of_ble_eq_true rfl), (Nat.le_of_ble_eq_true rfl)⟩ dX11_stops_29 (st' := [.int q20]) (σ' := σ) rfl rfl ?_
    refine g_if_ne (tgt := 37) X dX11_stops_32 (by decide) (fun c21 => ?_) (fun c21 => ?_)
    · replace h := (if_neg c21).symm.trans h
      exact g_sub (lv' := [(0, .ref (be θ + 565)), (1, .ref (be θ + x1)), (2, .int x2), (3, .int x3), (4, .int x4)]) [0, 1, 2, 3, 4] rfl (g_Model_stops_J37 X hr hlk  h1  h)
    · replace h := (if_pos c21).symm.trans h
      refine g_iconst X dX11_stops_35 (v := (0 : Int32)) ic_0 ?_
      exact g_iret X hr hlk dX11_stops_36 (by cases h; rfl)
set_option maxHeartbeats 4000000 in
set_option maxRecDepth 20000 in
theorem g_Model_stops (X : Cx θ p s m args c cX11_stops 6 RX11) (hr : meth.sig.returnType = some .int) (hlk : meth.locks = false)  {σ : Mem} {x1 : Nat} {x2 : Int32} {x3 : Int32} {x4 : Int32} {r : Int32} (h1 : kd x1 = 13) (h : f_Model_stops σ x1 x2 x3 x4 = some r) : GB θ p l e 2 s m args below meth c 6 (some (.int r), σ) 0 [(0, .ref (be θ + 565)), (1, .ref (be θ + x1)), (2, .int x2), (3, .int x3), (4, .int x4)] [] σ := by
  unfold f_Model_stops at h
  refine g_aload_n X dX11_stops_0 rfl 0 rfl ?_
  refine g_iload_n X dX11_stops_1 rfl 3 rfl ?_
  obtain ⟨q1, hq1, h⟩ := Option.bind_eq_some_iff.mp h
  refine g_cV X (c_Model_isBuyer  hq1) lk_RX11_412 my_X11_isBuyer (a := 565) (ci := 11) kd_565 (by decide) rfl (As := [.int x3]) (rest := []) rfl rfl (Nat.le_of_ble_eq_true rfl) ⟨(Nat.le_of_ble_eq_true rfl), (Nat.le_of_ble_eq_true rfl)⟩ ⟨(Nat.le_of_ble_eq_true rfl), (Nat.le_of_ble_eq_true rfl)⟩ dX11_stops_2 (st' := [.int q1]) (σ' := σ) rfl rfl ?_
  refine g_if_eq (tgt := 35) X dX11_stops_5 (by decide) (fun c2 => ?_) (fun c2 => ?_)
  · replace h := (if_pos c2).symm.trans h
    refine g_iconst X dX11_stops_35 (v := (0 : Int32)) ic_0 ?_
    exact g_iret X hr hlk dX11_stops_36 (by cases h; rfl)
  · replace h := (if_neg c2).symm.trans h
    refine g_iload_n X dX11_stops_8 rfl 2 rfl ?_
    refine g_if_ne (tgt := 21) X dX11_stops_9 (by decide) (fun c3 => ?_) (fun c3 => ?_)
    · replace h := (if_neg c3).symm.trans h
      exact g_sub (lv' := [(0, .ref (be θ + 565)), (1, .ref (be θ + x1)), (2, .int x2), (3, .int x3), (4, .int x4)]) [0, 1, 2, 3, 4] rfl (g_Model_stops_J21 X hr hlk  h1  h)
    · replace h := (if_pos c3).symm.trans h
      refine g_aload_n X dX11_stops_12 rfl 0 rfl ?_
      refine g_iload X dX11_stops_13 4 rfl ?_
      obtain ⟨q22, hq22, h⟩ := Option.bind_eq_some_iff.mp h
      refine g_cV X (c_Model_isThing  hq22) lk_RX11_326 my_X11_isThing (a := 565) (ci := 11) kd_565 (by decide) rfl (As := [.int x4]) (rest := []) rfl rfl (Nat.le_of_ble_eq_true rfl) ⟨(Nat.le_of_ble_eq_true rfl), (Nat.le_of_ble_eq_true rfl)⟩ ⟨(Nat.le_of_ble_eq_true rfl), (Nat.le_of_ble_eq_true rfl)⟩ dX11_stops_15 (st' := [.int q22]) (σ' := σ) rfl rfl ?_
      refine g_if_eq (tgt := 35) X dX11_stops_18 (by decide) (fun c23 => ?_) (fun c23 => ?_)
      · replace h := (if_pos c23).symm.trans h
        refine g_iconst X dX11_stops_35 (v := (0 : Int32)) ic_0 ?_
        exact g_iret X hr hlk dX11_stops_36 (by cases h; rfl)
      · replace h := (if_neg c23).symm.trans h
        exact g_sub (lv' := [(0, .ref (be θ + 565)), (1, .ref (be θ + x1)), (2, .int x2), (3, .int x3), (4, .int x4)]) [0, 1, 2, 3, 4] rfl (g_Model_stops_J21 X hr hlk  h1  h)
set_option maxHeartbeats 4000000 in
set_option maxRecDepth 20000 in
theorem c_Model_stops {θ : Th} {l : Launch} {σ : Mem} {x1 : Nat} {x2 : Int32} {x3 : Int32} {x4 : Int32} {r : Int32} (h1 : kd x1 = 13) (h : f_Model_stops σ x1 x2 x3 x4 = some r) : Cn θ l yX11_stops cX11_stops 6 (some .int) 2 0 0 [.ref (be θ + 565), .ref (be θ + x1), .int x2, .int x3, .int x4] σ (some (.int r), σ) :=
  Cn.of (by decide) (Nat.le_of_ble_eq_true rfl) (fun p e s m below meth c X hr hlk => g_Model_stops X hr hlk h1 h)
theorem dX11_does_0 : decode cX11_does 0 = .ok (.aload_n 0, 1) := by decide +kernel
theorem dX11_does_1 : decode cX11_does 1 = .ok (.aload_n 1, 1) := by decide +kernel
theorem dX11_does_2 : decode cX11_does 2 = .ok (.iload_n 3, 1) := by decide +kernel
theorem dX11_does_3 : decode cX11_does 3 = .ok (.invokevirtual 361, 3) := by decide +kernel
theorem dX11_does_6 : decode cX11_does 6 = .ok (.istore 5, 2) := by decide +kernel
theorem dX11_does_8 : decode cX11_does 8 = .ok (.iload_n 2, 1) := by decide +kernel
theorem dX11_does_9 : decode cX11_does 9 = .ok (.tableswitch 65 0 2 #[27, 49, 56], 27) := by decide +kernel
theorem dX11_does_36 : decode cX11_does 36 = .ok (.aload_n 1, 1) := by decide +kernel
theorem dX11_does_37 : decode cX11_does 37 = .ok (.iload 4, 2) := by decide +kernel
theorem dX11_does_39 : decode cX11_does 39 = .ok (.iload_n 3, 1) := by decide +kernel
theorem dX11_does_40 : decode cX11_does 40 = .ok (.iastore, 1) := by decide +kernel
theorem dX11_does_41 : decode cX11_does 41 = .ok (.aload_n 1, 1) := by decide +kernel
theorem dX11_does_42 : decode cX11_does 42 = .ok (.bipush 16, 2) := by decide +kernel
theorem dX11_does_44 : decode cX11_does 44 = .ok (.iload 4, 2) := by decide +kernel
theorem dX11_does_46 : decode cX11_does 46 = .ok (.iadd, 1) := by decide +kernel
theorem dX11_does_47 : decode cX11_does 47 = .ok (.iconst 0, 1) := by decide +kernel
theorem dX11_does_48 : decode cX11_does 48 = .ok (.iastore, 1) := by decide +kernel
theorem dX11_does_49 : decode cX11_does 49 = .ok (.aload_n 0, 1) := by decide +kernel
theorem dX11_does_50 : decode cX11_does 50 = .ok (.aload_n 1, 1) := by decide +kernel
theorem dX11_does_51 : decode cX11_does 51 = .ok (.iload_n 3, 1) := by decide +kernel
theorem dX11_does_52 : decode cX11_does 52 = .ok (.iload 4, 2) := by decide +kernel
theorem dX11_does_54 : decode cX11_does 54 = .ok (.invokevirtual 373, 3) := by decide +kernel
theorem dX11_does_57 : decode cX11_does 57 = .ok (.ireturn, 1) := by decide +kernel
theorem dX11_does_58 : decode cX11_does 58 = .ok (.aload_n 0, 1) := by decide +kernel
theorem dX11_does_59 : decode cX11_does 59 = .ok (.aload_n 1, 1) := by decide +kernel
theorem dX11_does_60 : decode cX11_does 60 = .ok (.iload_n 3, 1) := by decide +kernel
theorem dX11_does_61 : decode cX11_does 61 = .ok (.invokevirtual 379, 3) := by decide +kernel
theorem dX11_does_64 : decode cX11_does 64 = .ok (.ireturn, 1) := by decide +kernel
theorem dX11_does_65 : decode cX11_does 65 = .ok (.aload_n 1, 1) := by decide +kernel
theorem dX11_does_66 : decode cX11_does 66 = .ok (.iload 5, 2) := by decide +kernel
theorem dX11_does_68 : decode cX11_does 68 = .ok (.iload 4, 2) := by decide +kernel
theorem dX11_does_70 : decode cX11_does 70 = .ok (.iastore, 1) := by decide +kernel
theorem dX11_does_71 : decode cX11_does 71 = .ok (.iload 5, 2) := by decide +kernel
theorem dX11_does_73 : decode cX11_does 73 = .ok (.ireturn, 1) := by decide +kernel
theorem dX11_does_74 : decode cX11_does 74 = .ok (.aload_n 0, 1) := by decide +kernel
theorem dX11_does_75 : decode cX11_does 75 = .ok (.aload_n 1, 1) := by decide +kernel
theorem dX11_does_76 : decode cX11_does 76 = .ok (.iload_n 3, 1) := by decide +kernel
theorem dX11_does_77 : decode cX11_does 77 = .ok (.invokevirtual 376, 3) := by decide +kernel
theorem dX11_does_80 : decode cX11_does 80 = .ok (.ireturn, 1) := by decide +kernel
def f_Model_does (σ : Mem) (x1 : Nat) (x2 : Int32) (x3 : Int32) (x4 : Int32) : Option (Int32 × Mem) :=
  (f_Model_holds σ x1 x3).bind fun q1 =>
  if x2 = (0 : Int32) then
    if inb x4 (ln x1) then
      if inb ((16 : Int32) + x4) (ln x1) then
        (f_Model_likingOf (sI (sI σ x1 x4.toNatClampNeg x3) x1 ((16 : Int32) + x4).toNatClampNeg (0 : Int32)) x1 x3 x4).bind fun q5 =>
        some (q5.1, q5.2)
      else none
    else none
  else
  if x2 = (1 : Int32) then
    (f_Model_goesBack σ x1 x3).bind fun q7 =>
    some (q7.1, q7.2)
  else
  if x2 = (2 : Int32) then
    if inb q1 (ln x1) then
      some (q1, (sI σ x1 q1.toNatClampNeg x4))
    else none
  else
  (f_Model_buys σ x1 x3).bind fun q10 =>
  some (q10.1, q10.2)
set_option maxHeartbeats 4000000 in
set_option maxRecDepth 20000 in
theorem g_Model_does (X : Cx θ p s m args c cX11_does 6 RX11) (hr : meth.sig.returnType = some .int) (hlk : meth.locks = false)  {σ : Mem} {x1 : Nat} {x2 : Int32} {x3 : Int32} {x4 : Int32} {r : Int32 × Mem} (h1 : kd x1 = 13) (h : f_Model_does σ x1 x2 x3 x4 = some r) : GB θ p l e 64 s m args below meth c 6 (some (.int r.1), r.2) 0 [(0, .ref (be θ + 565)), (1, .ref (be θ + x1)), (2, .int x2), (3, .int x3), (4, .int x4)] [] σ := by
  unfold f_Model_does at h
  refine g_aload_n X dX11_does_0 rfl 0 rfl ?_
  refine g_aload_n X dX11_does_1 rfl 1 rfl ?_
  refine g_iload_n X dX11_does_2 rfl 3 rfl ?_
  obtain ⟨q1, hq1, h⟩ := Option.bind_eq_some_iff.mp h
  refine g_cV X (c_Model_holds h1 hq1) lk_RX11_361 my_X11_holds (a := 565) (ci := 11) kd_565 (by decide) rfl (As := [.ref (be θ + x1), .int x3]) (rest := []) rfl rfl (Nat.le_of_ble_eq_true rfl) ⟨(Nat.le_of_ble_eq_true rfl), (Nat.le_of_ble_eq_true rfl)⟩ ⟨(Nat.le_of_ble_eq_true rfl), (Nat.le_of_ble_eq_true rfl)⟩ dX11_does_3 (st' := [.int q1]) (σ' := σ) rfl rfl ?_
  refine g_istore X dX11_does_6 (by decide) (lv' := [(5, .int q1), (0, .ref (be θ + 565)), (1, .ref (be θ + x1)), (2, .int x2), (3, .int x3), (4, .int x4)]) rfl ?_
  refine g_iload_n X dX11_does_8 rfl 3 rfl ?_
  by_cases c2 : x2 = (0 : Int32)
  · replace h := (if_pos c2).symm.trans h
    refine g_tableIn (tgt := 36) (off := 27) X dX11_does_9 (by rw [c2]; decide) (by rw [c2]; decide) (by rw [c2]; rfl) (by decide) ?_
    refine g_aload_n X dX11_does_36 rfl 2 rfl ?_
    refine g_iload X dX11_does_37 5 rfl ?_
    refine g_iload_n X dX11_does_39 rfl 4 rfl ?_
    obtain ⟨g3, h⟩ := ite_some h
    refine g_iast X h1 rfl (inb_in g3) dX11_does_40 ?_
    refine g_aload_n X dX11_does_41 rfl 2 rfl ?_
    refine g_bipush X dX11_does_42 (v := (16 : Int32)) bp_16 ?_
    refine g_iload X dX11_does_44 5 rfl ?_
    refine g_iadd X dX11_does_46 ?_
    refine g_iconst X dX11_does_47 (v := (0 : Int32)) ic_0 ?_
    obtain ⟨g4, h⟩ := ite_some h
    refine g_iast X h1 rfl (inb_in g4) dX11_does_48 ?_
    refine g_aload_n X dX11_does_49 rfl 1 rfl ?_
    refine g_aload_n X dX11_does_50 rfl 2 rfl ?_
    refine g_iload_n X dX11_does_51 rfl 4 rfl ?_
    refine g_iload X dX11_does_52 5 rfl ?_
    obtain ⟨q5, hq5, h⟩ := Option.bind_eq_some_iff.mp h
    refine g_cV X (c_Model_likingOf h1 hq5) lk_RX11_373 my_X11_likingOf (a := 565) (ci := 11) kd_565 (by decide) rfl (As := [.ref (be θ + x1), .int x3, .int x4]) (rest := []) rfl rfl (Nat.le_of_ble_eq_true rfl) ⟨(Nat.le_of_ble_eq_true rfl), (Nat.le_of_ble_eq_true rfl)⟩ ⟨(Nat.le_of_ble_eq_true rfl), (Nat.le_of_ble_eq_true rfl)⟩ dX11_does_54 (st' := [.int q5.1]) (σ' := q5.2) rfl rfl ?_
    exact g_iret X hr hlk dX11_does_57 (by cases h; rfl)
  replace h := (if_neg c2).symm.trans h
  by_cases c6 : x2 = (1 : Int32)
  · replace h := (if_pos c6).symm.trans h
    refine g_tableIn (tgt := 58) (off := 49) X dX11_does_9 (by rw [c6]; decide) (by rw [c6]; decide) (by rw [c6]; rfl) (by decide) ?_
    refine g_aload_n X dX11_does_58 rfl 1 rfl ?_
    refine g_aload_n X dX11_does_59 rfl 2 rfl ?_
    refine g_iload_n X dX11_does_60 rfl 4 rfl ?_
    obtain ⟨q7, hq7, h⟩ := Option.bind_eq_some_iff.mp h
    refine g_cV X (c_Model_goesBack h1 hq7) lk_RX11_379 my_X11_goesBack (a := 565) (ci := 11) kd_565 (by decide) rfl (As := [.ref (be θ + x1), .int x3]) (rest := []) rfl rfl (Nat.le_of_ble_eq_true rfl) ⟨(Nat.le_of_ble_eq_true rfl), (Nat.le_of_ble_eq_true rfl)⟩ ⟨(Nat.le_of_ble_eq_true rfl), (Nat.le_of_ble_eq_true rfl)⟩ dX11_does_61 (st' := [.int q7.1]) (σ' := q7.2) rfl rfl ?_
    exact g_iret X hr hlk dX11_does_64 (by cases h; rfl)
  replace h := (if_neg c6).symm.trans h
  by_cases c8 : x2 = (2 : Int32)
  · replace h := (if_pos c8).symm.trans h
    refine g_tableIn (tgt := 65) (off := 56) X dX11_does_9 (by rw [c8]; decide) (by rw [c8]; decide) (by rw [c8]; rfl) (by decide) ?_
    refine g_aload_n X dX11_does_65 rfl 2 rfl ?_
    refine g_iload X dX11_does_66 0 rfl ?_
    refine g_iload X dX11_does_68 5 rfl ?_
    obtain ⟨g9, h⟩ := ite_some h
    refine g_iast X h1 rfl (inb_in g9) dX11_does_70 ?_
    refine g_iload X dX11_does_71 0 rfl ?_
    exact g_iret X hr hlk dX11_does_73 (by cases h; rfl)
  replace h := (if_neg c8).symm.trans h
  have nc2 := neT c2
  have nc6 := neT c6
  have nc8 := neT c8
  have w11 : x2.toInt < 0 ∨ 2 < x2.toInt := by
    rw [show (0 : Int32).toInt = 0 from rfl] at nc2
    rw [show (1 : Int32).toInt = 1 from rfl] at nc6
    rw [show (2 : Int32).toInt = 2 from rfl] at nc8
    omega
  refine g_tableOut (tgt := 74) X dX11_does_9 w11 (by decide) ?_
  refine g_aload_n X dX11_does_74 rfl 1 rfl ?_
  refine g_aload_n X dX11_does_75 rfl 2 rfl ?_
  refine g_iload_n X dX11_does_76 rfl 4 rfl ?_
  obtain ⟨q10, hq10, h⟩ := Option.bind_eq_some_iff.mp h
  refine g_cV X (c_Model_buys h1 hq10) lk_RX11_376 my_X11_buys (a := 565) (ci := 11) kd_565 (by decide) rfl (As := [.ref (be θ + x1), .int x3]) (rest := []) rfl rfl (Nat.le_of_ble_eq_true rfl) ⟨(Nat.le_of_ble_eq_true rfl), (Nat.le_of_ble_eq_true rfl)⟩ ⟨(Nat.le_of_ble_eq_true rfl), (Nat.le_of_ble_eq_true rfl)⟩ dX11_does_77 (st' := [.int q10.1]) (σ' := q10.2) rfl rfl ?_
  exact g_iret X hr hlk dX11_does_80 (by cases h; rfl)
set_option maxHeartbeats 4000000 in
set_option maxRecDepth 20000 in
theorem c_Model_does {θ : Th} {l : Launch} {σ : Mem} {x1 : Nat} {x2 : Int32} {x3 : Int32} {x4 : Int32} {r : Int32 × Mem} (h1 : kd x1 = 13) (h : f_Model_does σ x1 x2 x3 x4 = some r) : Cn θ l yX11_does cX11_does 6 (some .int) 64 0 0 [.ref (be θ + 565), .ref (be θ + x1), .int x2, .int x3, .int x4] σ (some (.int r.1), r.2) :=
  Cn.of (by decide) (Nat.le_of_ble_eq_true rfl) (fun p e s m below meth c X hr hlk => g_Model_does X hr hlk h1 h)
theorem dX11_tries_0 : decode cX11_tries 0 = .ok (.aload_n 0, 1) := by decide +kernel
theorem dX11_tries_1 : decode cX11_tries 1 = .ok (.iconst 0, 1) := by decide +kernel
theorem dX11_tries_2 : decode cX11_tries 2 = .ok (.putfield 112, 3) := by decide +kernel
theorem dX11_tries_5 : decode cX11_tries 5 = .ok (.aload_n 0, 1) := by decide +kernel
theorem dX11_tries_6 : decode cX11_tries 6 = .ok (.aload_n 0, 1) := by decide +kernel
theorem dX11_tries_7 : decode cX11_tries 7 = .ok (.getfield 61, 3) := by decide +kernel
theorem dX11_tries_10 : decode cX11_tries 10 = .ok (.iload_n 1, 1) := by decide +kernel
theorem dX11_tries_11 : decode cX11_tries 11 = .ok (.iload_n 2, 1) := by decide +kernel
theorem dX11_tries_12 : decode cX11_tries 12 = .ok (.iload_n 3, 1) := by decide +kernel
theorem dX11_tries_13 : decode cX11_tries 13 = .ok (.invokevirtual 422, 3) := by decide +kernel
theorem dX11_tries_16 : decode cX11_tries 16 = .ok (.istore 4, 2) := by decide +kernel
theorem dX11_tries_18 : decode cX11_tries 18 = .ok (.iload 4, 2) := by decide +kernel
theorem dX11_tries_20 : decode cX11_tries 20 = .ok (.iconst (-1), 1) := by decide +kernel
theorem dX11_tries_21 : decode cX11_tries 21 = .ok (.if_icmp .eq 10, 3) := by decide +kernel
theorem dX11_tries_24 : decode cX11_tries 24 = .ok (.aload_n 0, 1) := by decide +kernel
theorem dX11_tries_25 : decode cX11_tries 25 = .ok (.iload 4, 2) := by decide +kernel
theorem dX11_tries_27 : decode cX11_tries 27 = .ok (.invokevirtual 426, 3) := by decide +kernel
theorem dX11_tries_30 : decode cX11_tries 30 = .ok (.ireturn, 1) := by decide +kernel
theorem dX11_tries_31 : decode cX11_tries 31 = .ok (.aload_n 0, 1) := by decide +kernel
theorem dX11_tries_32 : decode cX11_tries 32 = .ok (.invokevirtual 429, 3) := by decide +kernel
theorem dX11_tries_35 : decode cX11_tries 35 = .ok (.aload_n 0, 1) := by decide +kernel
theorem dX11_tries_36 : decode cX11_tries 36 = .ok (.aload_n 0, 1) := by decide +kernel
theorem dX11_tries_37 : decode cX11_tries 37 = .ok (.getfield 61, 3) := by decide +kernel
theorem dX11_tries_40 : decode cX11_tries 40 = .ok (.iload_n 1, 1) := by decide +kernel
theorem dX11_tries_41 : decode cX11_tries 41 = .ok (.iload_n 2, 1) := by decide +kernel
theorem dX11_tries_42 : decode cX11_tries 42 = .ok (.iload_n 3, 1) := by decide +kernel
theorem dX11_tries_43 : decode cX11_tries 43 = .ok (.invokevirtual 432, 3) := by decide +kernel
theorem dX11_tries_46 : decode cX11_tries 46 = .ok (.ireturn, 1) := by decide +kernel
def f_Model_tries (σ : Mem) (x1 : Int32) (x2 : Int32) (x3 : Int32) : Option (Int32 × Mem) :=
  (f_Model_stops (sI σ 565 0 (0 : Int32)) 578 x1 x2 x3).bind fun q1 =>
  if q1 = (-1 : Int32) then
    (f_Model_remember (sI σ 565 0 (0 : Int32))).bind fun q3 =>
    (f_Model_does q3 578 x1 x2 x3).bind fun q4 =>
    some (q4.1, q4.2)
  else
    (f_Model_refused (sI σ 565 0 (0 : Int32)) q1).bind fun q5 =>
    some (q5.1, q5.2)
set_option maxHeartbeats 4000000 in
set_option maxRecDepth 20000 in
theorem g_Model_tries (X : Cx θ p s m args c cX11_tries 5 RX11) (hr : meth.sig.returnType = some .int) (hlk : meth.locks = false)  {σ : Mem} {x1 : Int32} {x2 : Int32} {x3 : Int32} {r : Int32 × Mem}  (h : f_Model_tries σ x1 x2 x3 = some r) : GB θ p l e 65 s m args below meth c 5 (some (.int r.1), r.2) 0 [(0, .ref (be θ + 565)), (1, .int x1), (2, .int x2), (3, .int x3)] [] σ := by
  unfold f_Model_tries at h
  refine g_aload_n X dX11_tries_0 rfl 0 rfl ?_
  refine g_iconst X dX11_tries_1 (v := (0 : Int32)) ic_0 ?_
  refine g_putI X fl_RX11_112 dX11_tries_2 kd_565 rfl rfl rfl ?_
  refine g_aload_n X dX11_tries_5 rfl 0 rfl ?_
  refine g_aload_n X dX11_tries_6 rfl 0 rfl ?_
  refine g_get X fl_RX11_61 dX11_tries_7 kd_565 (v := .ref (be θ + 578)) rfl ?_
  refine g_iload_n X dX11_tries_10 rfl 1 rfl ?_
  refine g_iload_n X dX11_tries_11 rfl 2 rfl ?_
  refine g_iload_n X dX11_tries_12 rfl 3 rfl ?_
  obtain ⟨q1, hq1, h⟩ := Option.bind_eq_some_iff.mp h
  refine g_cV X (c_Model_stops kd_578 hq1) lk_RX11_422 my_X11_stops (a := 565) (ci := 11) kd_565 (by decide) rfl (As := [.ref (be θ + 578), .int x1, .int x2, .int x3]) (rest := []) rfl rfl (Nat.le_of_ble_eq_true rfl) ⟨(Nat.le_of_ble_eq_true rfl), (Nat.le_of_ble_eq_true rfl)⟩ ⟨(Nat.le_of_ble_eq_true rfl), (Nat.le_of_ble_eq_true rfl)⟩ dX11_tries_13 (st' := [.int q1]) (σ' := (sI σ 565 0 (0 : Int32))) rfl rfl ?_
  refine g_istore X dX11_tries_16 (by decide) (lv' := [(4, .int q1), (0, .ref (be θ + 565)), (1, .int x1), (2, .int x2), (3, .int x3)]) rfl ?_
  refine g_iload X dX11_tries_18 0 rfl ?_
  refine g_iconst X dX11_tries_20 (v := (-1 : Int32)) ic_m1 ?_
  refine g_icmp_eq (tgt := 31) X dX11_tries_21 (by decide) (fun c2 => ?_) (fun c2 => ?_)
  · replace h := (if_pos c2).symm.trans h
    refine g_aload_n X dX11_tries_31 rfl 1 rfl ?_
    obtain ⟨q3, hq3, h⟩ := Option.bind_eq_some_iff.mp h
    refine g_cV X (c_Model_remember  hq3) lk_RX11_429 my_X11_remember (a := 565) (ci := 11) kd_565 (by decide) rfl (As := []) (rest := []) rfl rfl (Nat.le_of_ble_eq_true rfl) ⟨(Nat.le_of_ble_eq_true rfl), (Nat.le_of_ble_eq_true rfl)⟩ ⟨(Nat.le_of_ble_eq_true rfl), (Nat.le_of_ble_eq_true rfl)⟩ dX11_tries_32 (st' := []) (σ' := q3) rfl rfl ?_
    refine g_aload_n X dX11_tries_35 rfl 1 rfl ?_
    refine g_aload_n X dX11_tries_36 rfl 1 rfl ?_
    refine g_get X fl_RX11_61 dX11_tries_37 kd_565 (v := .ref (be θ + 578)) rfl ?_
    refine g_iload_n X dX11_tries_40 rfl 2 rfl ?_
    refine g_iload_n X dX11_tries_41 rfl 3 rfl ?_
    refine g_iload_n X dX11_tries_42 rfl 4 rfl ?_
    obtain ⟨q4, hq4, h⟩ := Option.bind_eq_some_iff.mp h
    refine g_cV X (c_Model_does kd_578 hq4) lk_RX11_432 my_X11_does (a := 565) (ci := 11) kd_565 (by decide) rfl (As := [.ref (be θ + 578), .int x1, .int x2, .int x3]) (rest := []) rfl rfl (Nat.le_of_ble_eq_true rfl) ⟨(Nat.le_of_ble_eq_true rfl), (Nat.le_of_ble_eq_true rfl)⟩ ⟨(Nat.le_of_ble_eq_true rfl), (Nat.le_of_ble_eq_true rfl)⟩ dX11_tries_43 (st' := [.int q4.1]) (σ' := q4.2) rfl rfl ?_
    exact g_iret X hr hlk dX11_tries_46 (by cases h; rfl)
  · replace h := (if_neg c2).symm.trans h
    refine g_aload_n X dX11_tries_24 rfl 1 rfl ?_
    refine g_iload X dX11_tries_25 0 rfl ?_
    obtain ⟨q5, hq5, h⟩ := Option.bind_eq_some_iff.mp h
    refine g_cV X (c_Model_refused  hq5) lk_RX11_426 my_X11_refused (a := 565) (ci := 11) kd_565 (by decide) rfl (As := [.int q1]) (rest := []) rfl rfl (Nat.le_of_ble_eq_true rfl) ⟨(Nat.le_of_ble_eq_true rfl), (Nat.le_of_ble_eq_true rfl)⟩ ⟨(Nat.le_of_ble_eq_true rfl), (Nat.le_of_ble_eq_true rfl)⟩ dX11_tries_27 (st' := [.int q5.1]) (σ' := q5.2) rfl rfl ?_
    exact g_iret X hr hlk dX11_tries_30 (by cases h; rfl)
set_option maxHeartbeats 4000000 in
set_option maxRecDepth 20000 in
theorem c_Model_tries {θ : Th} {l : Launch} {σ : Mem} {x1 : Int32} {x2 : Int32} {x3 : Int32} {r : Int32 × Mem}  (h : f_Model_tries σ x1 x2 x3 = some r) : Cn θ l yX11_tries cX11_tries 5 (some .int) 65 0 0 [.ref (be θ + 565), .int x1, .int x2, .int x3] σ (some (.int r.1), r.2) :=
  Cn.of (by decide) (Nat.le_of_ble_eq_true rfl) (fun p e s m below meth c X hr hlk => g_Model_tries X hr hlk  h)
theorem dX11_pick_0 : decode cX11_pick 0 = .ok (.aload_n 0, 1) := by decide +kernel
theorem dX11_pick_1 : decode cX11_pick 1 = .ok (.iconst 0, 1) := by decide +kernel
theorem dX11_pick_2 : decode cX11_pick 2 = .ok (.iload_n 1, 1) := by decide +kernel
theorem dX11_pick_3 : decode cX11_pick 3 = .ok (.iload_n 2, 1) := by decide +kernel
theorem dX11_pick_4 : decode cX11_pick 4 = .ok (.invokevirtual 435, 3) := by decide +kernel
theorem dX11_pick_7 : decode cX11_pick 7 = .ok (.ireturn, 1) := by decide +kernel
def f_Model_pick (σ : Mem) (x1 : Int32) (x2 : Int32) : Option (Int32 × Mem) :=
  (f_Model_tries σ (0 : Int32) x1 x2).bind fun q1 =>
  some (q1.1, q1.2)
set_option maxHeartbeats 4000000 in
set_option maxRecDepth 20000 in
theorem g_Model_pick (X : Cx θ p s m args c cX11_pick 3 RX11) (hr : meth.sig.returnType = some .int) (hlk : meth.locks = false)  {σ : Mem} {x1 : Int32} {x2 : Int32} {r : Int32 × Mem}  (h : f_Model_pick σ x1 x2 = some r) : GB θ p l e 66 s m args below meth c 3 (some (.int r.1), r.2) 0 [(0, .ref (be θ + 565)), (1, .int x1), (2, .int x2)] [] σ := by
  unfold f_Model_pick at h
  refine g_aload_n X dX11_pick_0 rfl 0 rfl ?_
  refine g_iconst X dX11_pick_1 (v := (0 : Int32)) ic_0 ?_
  refine g_iload_n X dX11_pick_2 rfl 1 rfl ?_
  refine g_iload_n X dX11_pick_3 rfl 2 rfl ?_
  obtain ⟨q1, hq1, h⟩ := Option.bind_eq_some_iff.mp h
  refine g_cV X (c_Model_tries  hq1) lk_RX11_435 my_X11_tries (a := 565) (ci := 11) kd_565 (by decide) rfl (As := [.int (0 : Int32), .int x1, .int x2]) (rest := []) rfl rfl (Nat.le_of_ble_eq_true rfl) ⟨(Nat.le_of_ble_eq_true rfl), (Nat.le_of_ble_eq_true rfl)⟩ ⟨(Nat.le_of_ble_eq_true rfl), (Nat.le_of_ble_eq_true rfl)⟩ dX11_pick_4 (st' := [.int q1.1]) (σ' := q1.2) rfl rfl ?_
  exact g_iret X hr hlk dX11_pick_7 (by cases h; rfl)
set_option maxHeartbeats 4000000 in
set_option maxRecDepth 20000 in
theorem c_Model_pick {θ : Th} {l : Launch} {σ : Mem} {x1 : Int32} {x2 : Int32} {r : Int32 × Mem}  (h : f_Model_pick σ x1 x2 = some r) : Cn θ l yX11_pick cX11_pick 3 (some .int) 66 0 0 [.ref (be θ + 565), .int x1, .int x2] σ (some (.int r.1), r.2) :=
  Cn.of (by decide) (Nat.le_of_ble_eq_true rfl) (fun p e s m below meth c X hr hlk => g_Model_pick X hr hlk  h)
theorem dX11_putBack_0 : decode cX11_putBack 0 = .ok (.aload_n 0, 1) := by decide +kernel
theorem dX11_putBack_1 : decode cX11_putBack 1 = .ok (.iconst 1, 1) := by decide +kernel
theorem dX11_putBack_2 : decode cX11_putBack 2 = .ok (.iload_n 1, 1) := by decide +kernel
theorem dX11_putBack_3 : decode cX11_putBack 3 = .ok (.iconst 0, 1) := by decide +kernel
theorem dX11_putBack_4 : decode cX11_putBack 4 = .ok (.invokevirtual 435, 3) := by decide +kernel
theorem dX11_putBack_7 : decode cX11_putBack 7 = .ok (.ireturn, 1) := by decide +kernel
def f_Model_putBack (σ : Mem) (x1 : Int32) : Option (Int32 × Mem) :=
  (f_Model_tries σ (1 : Int32) x1 (0 : Int32)).bind fun q1 =>
  some (q1.1, q1.2)
set_option maxHeartbeats 4000000 in
set_option maxRecDepth 20000 in
theorem g_Model_putBack (X : Cx θ p s m args c cX11_putBack 2 RX11) (hr : meth.sig.returnType = some .int) (hlk : meth.locks = false)  {σ : Mem} {x1 : Int32} {r : Int32 × Mem}  (h : f_Model_putBack σ x1 = some r) : GB θ p l e 66 s m args below meth c 2 (some (.int r.1), r.2) 0 [(0, .ref (be θ + 565)), (1, .int x1)] [] σ := by
  unfold f_Model_putBack at h
  refine g_aload_n X dX11_putBack_0 rfl 0 rfl ?_
  refine g_iconst X dX11_putBack_1 (v := (1 : Int32)) ic_1 ?_
  refine g_iload_n X dX11_putBack_2 rfl 1 rfl ?_
  refine g_iconst X dX11_putBack_3 (v := (0 : Int32)) ic_0 ?_
  obtain ⟨q1, hq1, h⟩ := Option.bind_eq_some_iff.mp h
  refine g_cV X (c_Model_tries  hq1) lk_RX11_435 my_X11_tries (a := 565) (ci := 11) kd_565 (by decide) rfl (As := [.int (1 : Int32), .int x1, .int (0 : Int32)]) (rest := []) rfl rfl (Nat.le_of_ble_eq_true rfl) ⟨(Nat.le_of_ble_eq_true rfl), (Nat.le_of_ble_eq_true rfl)⟩ ⟨(Nat.le_of_ble_eq_true rfl), (Nat.le_of_ble_eq_true rfl)⟩ dX11_putBack_4 (st' := [.int q1.1]) (σ' := q1.2) rfl rfl ?_
  exact g_iret X hr hlk dX11_putBack_7 (by cases h; rfl)
set_option maxHeartbeats 4000000 in
set_option maxRecDepth 20000 in
theorem c_Model_putBack {θ : Th} {l : Launch} {σ : Mem} {x1 : Int32} {r : Int32 × Mem}  (h : f_Model_putBack σ x1 = some r) : Cn θ l yX11_putBack cX11_putBack 2 (some .int) 66 0 0 [.ref (be θ + 565), .int x1] σ (some (.int r.1), r.2) :=
  Cn.of (by decide) (Nat.le_of_ble_eq_true rfl) (fun p e s m below meth c X hr hlk => g_Model_putBack X hr hlk  h)
theorem dX11_hand_0 : decode cX11_hand 0 = .ok (.aload_n 0, 1) := by decide +kernel
theorem dX11_hand_1 : decode cX11_hand 1 = .ok (.iconst 2, 1) := by decide +kernel
theorem dX11_hand_2 : decode cX11_hand 2 = .ok (.iload_n 1, 1) := by decide +kernel
theorem dX11_hand_3 : decode cX11_hand 3 = .ok (.iload_n 2, 1) := by decide +kernel
theorem dX11_hand_4 : decode cX11_hand 4 = .ok (.invokevirtual 435, 3) := by decide +kernel
theorem dX11_hand_7 : decode cX11_hand 7 = .ok (.ireturn, 1) := by decide +kernel
def f_Model_hand (σ : Mem) (x1 : Int32) (x2 : Int32) : Option (Int32 × Mem) :=
  (f_Model_tries σ (2 : Int32) x1 x2).bind fun q1 =>
  some (q1.1, q1.2)
set_option maxHeartbeats 4000000 in
set_option maxRecDepth 20000 in
theorem g_Model_hand (X : Cx θ p s m args c cX11_hand 3 RX11) (hr : meth.sig.returnType = some .int) (hlk : meth.locks = false)  {σ : Mem} {x1 : Int32} {x2 : Int32} {r : Int32 × Mem}  (h : f_Model_hand σ x1 x2 = some r) : GB θ p l e 66 s m args below meth c 3 (some (.int r.1), r.2) 0 [(0, .ref (be θ + 565)), (1, .int x1), (2, .int x2)] [] σ := by
  unfold f_Model_hand at h
  refine g_aload_n X dX11_hand_0 rfl 0 rfl ?_
  refine g_iconst X dX11_hand_1 (v := (2 : Int32)) ic_2 ?_
  refine g_iload_n X dX11_hand_2 rfl 1 rfl ?_
  refine g_iload_n X dX11_hand_3 rfl 2 rfl ?_
  obtain ⟨q1, hq1, h⟩ := Option.bind_eq_some_iff.mp h
  refine g_cV X (c_Model_tries  hq1) lk_RX11_435 my_X11_tries (a := 565) (ci := 11) kd_565 (by decide) rfl (As := [.int (2 : Int32), .int x1, .int x2]) (rest := []) rfl rfl (Nat.le_of_ble_eq_true rfl) ⟨(Nat.le_of_ble_eq_true rfl), (Nat.le_of_ble_eq_true rfl)⟩ ⟨(Nat.le_of_ble_eq_true rfl), (Nat.le_of_ble_eq_true rfl)⟩ dX11_hand_4 (st' := [.int q1.1]) (σ' := q1.2) rfl rfl ?_
  exact g_iret X hr hlk dX11_hand_7 (by cases h; rfl)
set_option maxHeartbeats 4000000 in
set_option maxRecDepth 20000 in
theorem c_Model_hand {θ : Th} {l : Launch} {σ : Mem} {x1 : Int32} {x2 : Int32} {r : Int32 × Mem}  (h : f_Model_hand σ x1 x2 = some r) : Cn θ l yX11_hand cX11_hand 3 (some .int) 66 0 0 [.ref (be θ + 565), .int x1, .int x2] σ (some (.int r.1), r.2) :=
  Cn.of (by decide) (Nat.le_of_ble_eq_true rfl) (fun p e s m below meth c X hr hlk => g_Model_hand X hr hlk  h)
theorem dX11_buy_0 : decode cX11_buy 0 = .ok (.aload_n 0, 1) := by decide +kernel
theorem dX11_buy_1 : decode cX11_buy 1 = .ok (.iconst 3, 1) := by decide +kernel
theorem dX11_buy_2 : decode cX11_buy 2 = .ok (.iload_n 1, 1) := by decide +kernel
theorem dX11_buy_3 : decode cX11_buy 3 = .ok (.iconst 0, 1) := by decide +kernel
theorem dX11_buy_4 : decode cX11_buy 4 = .ok (.invokevirtual 435, 3) := by decide +kernel
theorem dX11_buy_7 : decode cX11_buy 7 = .ok (.ireturn, 1) := by decide +kernel
def f_Model_buy (σ : Mem) (x1 : Int32) : Option (Int32 × Mem) :=
  (f_Model_tries σ (3 : Int32) x1 (0 : Int32)).bind fun q1 =>
  some (q1.1, q1.2)
set_option maxHeartbeats 4000000 in
set_option maxRecDepth 20000 in
theorem g_Model_buy (X : Cx θ p s m args c cX11_buy 2 RX11) (hr : meth.sig.returnType = some .int) (hlk : meth.locks = false)  {σ : Mem} {x1 : Int32} {r : Int32 × Mem}  (h : f_Model_buy σ x1 = some r) : GB θ p l e 66 s m args below meth c 2 (some (.int r.1), r.2) 0 [(0, .ref (be θ + 565)), (1, .int x1)] [] σ := by
  unfold f_Model_buy at h
  refine g_aload_n X dX11_buy_0 rfl 0 rfl ?_
  refine g_iconst X dX11_buy_1 (v := (3 : Int32)) ic_3 ?_
  refine g_iload_n X dX11_buy_2 rfl 1 rfl ?_
  refine g_iconst X dX11_buy_3 (v := (0 : Int32)) ic_0 ?_
  obtain ⟨q1, hq1, h⟩ := Option.bind_eq_some_iff.mp h
  refine g_cV X (c_Model_tries  hq1) lk_RX11_435 my_X11_tries (a := 565) (ci := 11) kd_565 (by decide) rfl (As := [.int (3 : Int32), .int x1, .int (0 : Int32)]) (rest := []) rfl rfl (Nat.le_of_ble_eq_true rfl) ⟨(Nat.le_of_ble_eq_true rfl), (Nat.le_of_ble_eq_true rfl)⟩ ⟨(Nat.le_of_ble_eq_true rfl), (Nat.le_of_ble_eq_true rfl)⟩ dX11_buy_4 (st' := [.int q1.1]) (σ' := q1.2) rfl rfl ?_
  exact g_iret X hr hlk dX11_buy_7 (by cases h; rfl)
set_option maxHeartbeats 4000000 in
set_option maxRecDepth 20000 in
theorem c_Model_buy {θ : Th} {l : Launch} {σ : Mem} {x1 : Int32} {r : Int32 × Mem}  (h : f_Model_buy σ x1 = some r) : Cn θ l yX11_buy cX11_buy 2 (some .int) 66 0 0 [.ref (be θ + 565), .int x1] σ (some (.int r.1), r.2) :=
  Cn.of (by decide) (Nat.le_of_ble_eq_true rfl) (fun p e s m below meth c X hr hlk => g_Model_buy X hr hlk  h)
theorem dX11_hour_0 : decode cX11_hour 0 = .ok (.aload_n 0, 1) := by decide +kernel
theorem dX11_hour_1 : decode cX11_hour 1 = .ok (.iconst 0, 1) := by decide +kernel
theorem dX11_hour_2 : decode cX11_hour 2 = .ok (.putfield 112, 3) := by decide +kernel
theorem dX11_hour_5 : decode cX11_hour 5 = .ok (.aload_n 0, 1) := by decide +kernel
theorem dX11_hour_6 : decode cX11_hour 6 = .ok (.getfield 310, 3) := by decide +kernel
theorem dX11_hour_9 : decode cX11_hour 9 = .ok (.ifCond .ne 9, 3) := by decide +kernel
theorem dX11_hour_12 : decode cX11_hour 12 = .ok (.aload_n 0, 1) := by decide +kernel
theorem dX11_hour_13 : decode cX11_hour 13 = .ok (.iconst 0, 1) := by decide +kernel
theorem dX11_hour_14 : decode cX11_hour 14 = .ok (.invokevirtual 426, 3) := by decide +kernel
theorem dX11_hour_17 : decode cX11_hour 17 = .ok (.ireturn, 1) := by decide +kernel
theorem dX11_hour_18 : decode cX11_hour 18 = .ok (.aload_n 0, 1) := by decide +kernel
theorem dX11_hour_19 : decode cX11_hour 19 = .ok (.getfield 61, 3) := by decide +kernel
theorem dX11_hour_22 : decode cX11_hour 22 = .ok (.sipush 130, 3) := by decide +kernel
theorem dX11_hour_25 : decode cX11_hour 25 = .ok (.iaload, 1) := by decide +kernel
theorem dX11_hour_26 : decode cX11_hour 26 = .ok (.sipush 9999, 3) := by decide +kernel
theorem dX11_hour_29 : decode cX11_hour 29 = .ok (.if_icmp .ne 9, 3) := by decide +kernel
theorem dX11_hour_32 : decode cX11_hour 32 = .ok (.aload_n 0, 1) := by decide +kernel
theorem dX11_hour_33 : decode cX11_hour 33 = .ok (.iconst 5, 1) := by decide +kernel
theorem dX11_hour_34 : decode cX11_hour 34 = .ok (.invokevirtual 426, 3) := by decide +kernel
theorem dX11_hour_37 : decode cX11_hour 37 = .ok (.ireturn, 1) := by decide +kernel
theorem dX11_hour_38 : decode cX11_hour 38 = .ok (.aload_n 0, 1) := by decide +kernel
theorem dX11_hour_39 : decode cX11_hour 39 = .ok (.invokevirtual 429, 3) := by decide +kernel
theorem dX11_hour_42 : decode cX11_hour 42 = .ok (.aload_n 0, 1) := by decide +kernel
theorem dX11_hour_43 : decode cX11_hour 43 = .ok (.invokevirtual 439, 3) := by decide +kernel
theorem dX11_hour_46 : decode cX11_hour 46 = .ok (.ireturn, 1) := by decide +kernel
def f_Model_hour (σ : Mem)  : Option (Int32 × Mem) :=
  if (mI (sI σ 565 0 (0 : Int32)) 565 27) = (0 : Int32) then
    (f_Model_refused (sI σ 565 0 (0 : Int32)) (0 : Int32)).bind fun q6 =>
    some (q6.1, q6.2)
  else
    if (mI (sI σ 565 0 (0 : Int32)) 578 (130 : Int32).toNatClampNeg) = (9999 : Int32) then
      (f_Model_refused (sI σ 565 0 (0 : Int32)) (5 : Int32)).bind fun q5 =>
      some (q5.1, q5.2)
    else
      (f_Model_remember (sI σ 565 0 (0 : Int32))).bind fun q3 =>
      (f_Model_goNow q3).bind fun q4 =>
      some (q4.1, q4.2)
set_option maxHeartbeats 4000000 in
set_option maxRecDepth 20000 in
theorem g_Model_hour (X : Cx θ p s m args c cX11_hour 1 RX11) (hr : meth.sig.returnType = some .int) (hlk : meth.locks = false)  {σ : Mem}  {r : Int32 × Mem}  (h : f_Model_hour σ  = some r) : GB θ p l e 67 s m args below meth c 1 (some (.int r.1), r.2) 0 [(0, .ref (be θ + 565))] [] σ := by
  unfold f_Model_hour at h
  refine g_aload_n X dX11_hour_0 rfl 0 rfl ?_
  refine g_iconst X dX11_hour_1 (v := (0 : Int32)) ic_0 ?_
  refine g_putI X fl_RX11_112 dX11_hour_2 kd_565 rfl rfl rfl ?_
  refine g_aload_n X dX11_hour_5 rfl 0 rfl ?_
  refine g_get X fl_RX11_310 dX11_hour_6 kd_565 (v := .int (mI (sI σ 565 0 (0 : Int32)) 565 27)) rfl ?_
  refine g_if_ne (tgt := 18) X dX11_hour_9 (by decide) (fun c1 => ?_) (fun c1 => ?_)
  · replace h := (if_neg c1).symm.trans h
    refine g_aload_n X dX11_hour_18 rfl 0 rfl ?_
    refine g_get X fl_RX11_61 dX11_hour_19 kd_565 (v := .ref (be θ + 578)) rfl ?_
    refine g_sipush X dX11_hour_22 (v := (130 : Int32)) sp_130 ?_
    refine g_iald X kd_578 ln_578 (inb_in (show inb (130 : Int32) 312 = true by decide)) dX11_hour_25 ?_
    refine g_sipush X dX11_hour_26 (v := (9999 : Int32)) sp_9999 ?_
    refine g_icmp_ne (tgt := 38) X dX11_hour_29 (by decide) (fun c2 => ?_) (fun c2 => ?_)
    · replace h := (if_neg c2).symm.trans h
      refine g_aload_n X dX11_hour_38 rfl 0 rfl ?_
      obtain ⟨q3, hq3, h⟩ := Option.bind_eq_some_iff.mp h
      refine g_cV X (c_Model_remember  hq3) lk_RX11_429 my_X11_remember (a := 565) (ci := 11) kd_565 (by decide) rfl (As := []) (rest := []) rfl rfl (Nat.le_of_ble_eq_true rfl) ⟨(Nat.le_of_ble_eq_true rfl), (Nat.le_of_ble_eq_true rfl)⟩ ⟨(Nat.le_of_ble_eq_true rfl), (Nat.le_of_ble_eq_true rfl)⟩ dX11_hour_39 (st' := []) (σ' := q3) rfl rfl ?_
      refine g_aload_n X dX11_hour_42 rfl 0 rfl ?_
      obtain ⟨q4, hq4, h⟩ := Option.bind_eq_some_iff.mp h
      refine g_cV X (c_Model_goNow  hq4) lk_RX11_439 my_X11_goNow (a := 565) (ci := 11) kd_565 (by decide) rfl (As := []) (rest := []) rfl rfl (Nat.le_of_ble_eq_true rfl) ⟨(Nat.le_of_ble_eq_true rfl), (Nat.le_of_ble_eq_true rfl)⟩ ⟨(Nat.le_of_ble_eq_true rfl), (Nat.le_of_ble_eq_true rfl)⟩ dX11_hour_43 (st' := [.int q4.1]) (σ' := q4.2) rfl rfl ?_
      exact g_iret X hr hlk dX11_hour_46 (by cases h; rfl)
    · replace h := (if_pos c2).symm.trans h
      refine g_aload_n X dX11_hour_32 rfl 0 rfl ?_
      refine g_iconst X dX11_hour_33 (v := (5 : Int32)) ic_5 ?_
      obtain ⟨q5, hq5, h⟩ := Option.bind_eq_some_iff.mp h
      refine g_cV X (c_Model_refused  hq5) lk_RX11_426 my_X11_refused (a := 565) (ci := 11) kd_565 (by decide) rfl (As := [.int (5 : Int32)]) (rest := []) rfl rfl (Nat.le_of_ble_eq_true rfl) ⟨(Nat.le_of_ble_eq_true rfl), (Nat.le_of_ble_eq_true rfl)⟩ ⟨(Nat.le_of_ble_eq_true rfl), (Nat.le_of_ble_eq_true rfl)⟩ dX11_hour_34 (st' := [.int q5.1]) (σ' := q5.2) rfl rfl ?_
      exact g_iret X hr hlk dX11_hour_37 (by cases h; rfl)
  · replace h := (if_pos c1).symm.trans h
    refine g_aload_n X dX11_hour_12 rfl 0 rfl ?_
    refine g_iconst X dX11_hour_13 (v := (0 : Int32)) ic_0 ?_
    obtain ⟨q6, hq6, h⟩ := Option.bind_eq_some_iff.mp h
    refine g_cV X (c_Model_refused  hq6) lk_RX11_426 my_X11_refused (a := 565) (ci := 11) kd_565 (by decide) rfl (As := [.int (0 : Int32)]) (rest := []) rfl rfl (Nat.le_of_ble_eq_true rfl) ⟨(Nat.le_of_ble_eq_true rfl), (Nat.le_of_ble_eq_true rfl)⟩ ⟨(Nat.le_of_ble_eq_true rfl), (Nat.le_of_ble_eq_true rfl)⟩ dX11_hour_14 (st' := [.int q6.1]) (σ' := q6.2) rfl rfl ?_
    exact g_iret X hr hlk dX11_hour_17 (by cases h; rfl)
set_option maxHeartbeats 4000000 in
set_option maxRecDepth 20000 in
theorem c_Model_hour {θ : Th} {l : Launch} {σ : Mem}  {r : Int32 × Mem}  (h : f_Model_hour σ  = some r) : Cn θ l yX11_hour cX11_hour 1 (some .int) 67 0 0 [.ref (be θ + 565)] σ (some (.int r.1), r.2) :=
  Cn.of (by decide) (Nat.le_of_ble_eq_true rfl) (fun p e s m below meth c X hr hlk => g_Model_hour X hr hlk  h)
theorem dX11_clerk_0 : decode cX11_clerk 0 = .ok (.aload_n 0, 1) := by decide +kernel
theorem dX11_clerk_1 : decode cX11_clerk 1 = .ok (.iconst 0, 1) := by decide +kernel
theorem dX11_clerk_2 : decode cX11_clerk 2 = .ok (.putfield 112, 3) := by decide +kernel
theorem dX11_clerk_5 : decode cX11_clerk 5 = .ok (.aload_n 0, 1) := by decide +kernel
theorem dX11_clerk_6 : decode cX11_clerk 6 = .ok (.getfield 310, 3) := by decide +kernel
theorem dX11_clerk_9 : decode cX11_clerk 9 = .ok (.ifCond .ne 9, 3) := by decide +kernel
theorem dX11_clerk_12 : decode cX11_clerk 12 = .ok (.aload_n 0, 1) := by decide +kernel
theorem dX11_clerk_13 : decode cX11_clerk 13 = .ok (.iconst 0, 1) := by decide +kernel
theorem dX11_clerk_14 : decode cX11_clerk 14 = .ok (.invokevirtual 426, 3) := by decide +kernel
theorem dX11_clerk_17 : decode cX11_clerk 17 = .ok (.ireturn, 1) := by decide +kernel
theorem dX11_clerk_18 : decode cX11_clerk 18 = .ok (.iload_n 1, 1) := by decide +kernel
theorem dX11_clerk_19 : decode cX11_clerk 19 = .ok (.i2l, 1) := by decide +kernel
theorem dX11_clerk_20 : decode cX11_clerk 20 = .ok (.lconst 0, 1) := by decide +kernel
theorem dX11_clerk_21 : decode cX11_clerk 21 = .ok (.ldc2_w 442, 3) := by decide +kernel
theorem dX11_clerk_24 : decode cX11_clerk 24 = .ok (.invokestatic 233, 3) := by decide +kernel
theorem dX11_clerk_27 : decode cX11_clerk 27 = .ok (.ifCond .ne 9, 3) := by decide +kernel
theorem dX11_clerk_30 : decode cX11_clerk 30 = .ok (.aload_n 0, 1) := by decide +kernel
theorem dX11_clerk_31 : decode cX11_clerk 31 = .ok (.iconst 1, 1) := by decide +kernel
theorem dX11_clerk_32 : decode cX11_clerk 32 = .ok (.invokevirtual 426, 3) := by decide +kernel
theorem dX11_clerk_35 : decode cX11_clerk 35 = .ok (.ireturn, 1) := by decide +kernel
theorem dX11_clerk_36 : decode cX11_clerk 36 = .ok (.aload_n 0, 1) := by decide +kernel
theorem dX11_clerk_37 : decode cX11_clerk 37 = .ok (.invokevirtual 429, 3) := by decide +kernel
theorem dX11_clerk_40 : decode cX11_clerk 40 = .ok (.aload_n 0, 1) := by decide +kernel
theorem dX11_clerk_41 : decode cX11_clerk 41 = .ok (.getfield 61, 3) := by decide +kernel
theorem dX11_clerk_44 : decode cX11_clerk 44 = .ok (.sipush 128, 3) := by decide +kernel
theorem dX11_clerk_47 : decode cX11_clerk 47 = .ok (.dup2, 1) := by decide +kernel
theorem dX11_clerk_48 : decode cX11_clerk 48 = .ok (.iaload, 1) := by decide +kernel
theorem dX11_clerk_49 : decode cX11_clerk 49 = .ok (.iconst 1, 1) := by decide +kernel
theorem dX11_clerk_50 : decode cX11_clerk 50 = .ok (.iload_n 1, 1) := by decide +kernel
theorem dX11_clerk_51 : decode cX11_clerk 51 = .ok (.ishl, 1) := by decide +kernel
theorem dX11_clerk_52 : decode cX11_clerk 52 = .ok (.ixor, 1) := by decide +kernel
theorem dX11_clerk_53 : decode cX11_clerk 53 = .ok (.iastore, 1) := by decide +kernel
theorem dX11_clerk_54 : decode cX11_clerk 54 = .ok (.aload_n 0, 1) := by decide +kernel
theorem dX11_clerk_55 : decode cX11_clerk 55 = .ok (.getfield 61, 3) := by decide +kernel
theorem dX11_clerk_58 : decode cX11_clerk 58 = .ok (.sipush 128, 3) := by decide +kernel
theorem dX11_clerk_61 : decode cX11_clerk 61 = .ok (.iaload, 1) := by decide +kernel
theorem dX11_clerk_62 : decode cX11_clerk 62 = .ok (.iload_n 1, 1) := by decide +kernel
theorem dX11_clerk_63 : decode cX11_clerk 63 = .ok (.ishr, 1) := by decide +kernel
theorem dX11_clerk_64 : decode cX11_clerk 64 = .ok (.iconst 1, 1) := by decide +kernel
theorem dX11_clerk_65 : decode cX11_clerk 65 = .ok (.iand, 1) := by decide +kernel
theorem dX11_clerk_66 : decode cX11_clerk 66 = .ok (.ireturn, 1) := by decide +kernel
def f_Model_clerk (σ : Mem) (x1 : Int32) : Option (Int32 × Mem) :=
  if (mI (sI σ 565 0 (0 : Int32)) 565 27) = (0 : Int32) then
    (f_Model_refused (sI σ 565 0 (0 : Int32)) (0 : Int32)).bind fun q6 =>
    some (q6.1, q6.2)
  else
    (f_Model_isIn (sI σ 565 0 (0 : Int32)) ((x1).toInt64) (0 : Int64) (3 : Int64)).bind fun q2 =>
    if q2 = (0 : Int32) then
      (f_Model_refused (sI σ 565 0 (0 : Int32)) (1 : Int32)).bind fun q5 =>
      some (q5.1, q5.2)
    else
      (f_Model_remember (sI σ 565 0 (0 : Int32))).bind fun q4 =>
      some ((((mI (sI q4 578 (128 : Int32).toNatClampNeg ((mI q4 578 (128 : Int32).toNatClampNeg) ^^^ ((1 : Int32) <<< (x1 &&& 31)))) 578 (128 : Int32).toNatClampNeg) >>> (x1 &&& 31)) &&& (1 : Int32)), (sI q4 578 (128 : Int32).toNatClampNeg ((mI q4 578 (128 : Int32).toNatClampNeg) ^^^ ((1 : Int32) <<< (x1 &&& 31)))))
set_option maxHeartbeats 4000000 in
set_option maxRecDepth 20000 in
theorem g_Model_clerk (X : Cx θ p s m args c cX11_clerk 2 RX11) (hr : meth.sig.returnType = some .int) (hlk : meth.locks = false)  {σ : Mem} {x1 : Int32} {r : Int32 × Mem}  (h : f_Model_clerk σ x1 = some r) : GB θ p l e 1 s m args below meth c 2 (some (.int r.1), r.2) 0 [(0, .ref (be θ + 565)), (1, .int x1)] [] σ := by
  unfold f_Model_clerk at h
  refine g_aload_n X dX11_clerk_0 rfl 0 rfl ?_
  refine g_iconst X dX11_clerk_1 (v := (0 : Int32)) ic_0 ?_
  refine g_putI X fl_RX11_112 dX11_clerk_2 kd_565 rfl rfl rfl ?_
  refine g_aload_n X dX11_clerk_5 rfl 0 rfl ?_
  refine g_get X fl_RX11_310 dX11_clerk_6 kd_565 (v := .int (mI (sI σ 565 0 (0 : Int32)) 565 27)) rfl ?_
  refine g_if_ne (tgt := 18) X dX11_clerk_9 (by decide) (fun c1 => ?_) (fun c1 => ?_)
  · replace h := (if_neg c1).symm.trans h
    refine g_iload_n X dX11_clerk_18 rfl 1 rfl ?_
    refine g_i2l X dX11_clerk_19 (v := ((x1).toInt64)) rfl ?_
    refine g_lconst X dX11_clerk_20 (v := (0 : Int64)) rfl ?_
    refine g_ldc2 X cst_RX11_442 dX11_clerk_21 ?_
    obtain ⟨q2, hq2, h⟩ := Option.bind_eq_some_iff.mp h
    refine g_cS X (c_Model_isIn  hq2) lk_RX11_233 my_X11_isIn (As := [.long ((x1).toInt64), .long (0 : Int64), .long (3 : Int64)]) (rest := []) rfl rfl (Nat.le_of_ble_eq_true rfl) ⟨(Nat.le_of_ble_eq_true rfl), (Nat.le_of_ble_eq_true rfl)⟩ ⟨(Nat.le_of_ble_eq_true rfl), (Nat.le_of_ble_eq_true rfl)⟩ dX11_clerk_24 (st' := [.int q2]) (σ' := (sI σ 565 0 (0 : Int32))) rfl rfl ?_
    refine g_if_ne (tgt := 36) X dX11_clerk_27 (by decide) (fun c3 => ?_) (fun c3 => ?_)
    · replace h := (if_neg c3).symm.trans h
      refine g_aload_n X dX11_clerk_36 rfl 0 rfl ?_
      obtain ⟨q4, hq4, h⟩ := Option.bind_eq_some_iff.mp h
      refine g_cV X (c_Model_remember  hq4) lk_RX11_429 my_X11_remember (a := 565) (ci := 11) kd_565 (by decide) rfl (As := []) (rest := []) rfl rfl (Nat.le_of_ble_eq_true rfl) ⟨(Nat.le_of_ble_eq_true rfl), (Nat.le_of_ble_eq_true rfl)⟩ ⟨(Nat.le_of_ble_eq_true rfl), (Nat.le_of_ble_eq_true rfl)⟩ dX11_clerk_37 (st' := []) (σ' := q4) rfl rfl ?_
      refine g_aload_n X dX11_clerk_40 rfl 0 rfl ?_
      refine g_get X fl_RX11_61 dX11_clerk_41 kd_565 (v := .ref (be θ + 578)) rfl ?_
      refine g_sipush X dX11_clerk_44 (v := (128 : Int32)) sp_128 ?_
      refine g_dup2 X dX11_clerk_47 rfl rfl ?_
      refine g_iald X kd_578 ln_578 (inb_in (show inb (128 : Int32) 312 = true by decide)) dX11_clerk_48 ?_
      refine g_iconst X dX11_clerk_49 (v := (1 : Int32)) ic_1 ?_
      refine g_iload_n X dX11_clerk_50 rfl 1 rfl ?_
      refine g_ishl X dX11_clerk_51 ?_
      refine g_ixor X dX11_clerk_52 ?_
      refine g_iast X kd_578 ln_578 (inb_in (show inb (128 : Int32) 312 = true by decide)) dX11_clerk_53 ?_
      refine g_aload_n X dX11_clerk_54 rfl 0 rfl ?_
      refine g_get X fl_RX11_61 dX11_clerk_55 kd_565 (v := .ref (be θ + 578)) rfl ?_
      refine g_sipush X dX11_clerk_58 (v := (128 : Int32)) sp_128 ?_
      refine g_iald X kd_578 ln_578 (inb_in (show inb (128 : Int32) 312 = true by decide)) dX11_clerk_61 ?_
      refine g_iload_n X dX11_clerk_62 rfl 1 rfl ?_
      refine g_ishr X dX11_clerk_63 ?_
      refine g_iconst X dX11_clerk_64 (v := (1 : Int32)) ic_1 ?_
      refine g_iand X dX11_clerk_65 ?_
      exact g_iret X hr hlk dX11_clerk_66 (by cases h; rfl)
    · replace h := (if_pos c3).symm.trans h
      refine g_aload_n X dX11_clerk_30 rfl 0 rfl ?_
      refine g_iconst X dX11_clerk_31 (v := (1 : Int32)) ic_1 ?_
      obtain ⟨q5, hq5, h⟩ := Option.bind_eq_some_iff.mp h
      refine g_cV X (c_Model_refused  hq5) lk_RX11_426 my_X11_refused (a := 565) (ci := 11) kd_565 (by decide) rfl (As := [.int (1 : Int32)]) (rest := []) rfl rfl (Nat.le_of_ble_eq_true rfl) ⟨(Nat.le_of_ble_eq_true rfl), (Nat.le_of_ble_eq_true rfl)⟩ ⟨(Nat.le_of_ble_eq_true rfl), (Nat.le_of_ble_eq_true rfl)⟩ dX11_clerk_32 (st' := [.int q5.1]) (σ' := q5.2) rfl rfl ?_
      exact g_iret X hr hlk dX11_clerk_35 (by cases h; rfl)
  · replace h := (if_pos c1).symm.trans h
    refine g_aload_n X dX11_clerk_12 rfl 0 rfl ?_
    refine g_iconst X dX11_clerk_13 (v := (0 : Int32)) ic_0 ?_
    obtain ⟨q6, hq6, h⟩ := Option.bind_eq_some_iff.mp h
    refine g_cV X (c_Model_refused  hq6) lk_RX11_426 my_X11_refused (a := 565) (ci := 11) kd_565 (by decide) rfl (As := [.int (0 : Int32)]) (rest := []) rfl rfl (Nat.le_of_ble_eq_true rfl) ⟨(Nat.le_of_ble_eq_true rfl), (Nat.le_of_ble_eq_true rfl)⟩ ⟨(Nat.le_of_ble_eq_true rfl), (Nat.le_of_ble_eq_true rfl)⟩ dX11_clerk_14 (st' := [.int q6.1]) (σ' := q6.2) rfl rfl ?_
    exact g_iret X hr hlk dX11_clerk_17 (by cases h; rfl)
set_option maxHeartbeats 4000000 in
set_option maxRecDepth 20000 in
theorem c_Model_clerk {θ : Th} {l : Launch} {σ : Mem} {x1 : Int32} {r : Int32 × Mem}  (h : f_Model_clerk σ x1 = some r) : Cn θ l yX11_clerk cX11_clerk 2 (some .int) 1 0 0 [.ref (be θ + 565), .int x1] σ (some (.int r.1), r.2) :=
  Cn.of (by decide) (Nat.le_of_ble_eq_true rfl) (fun p e s m below meth c X hr hlk => g_Model_clerk X hr hlk  h)
theorem dX11_rate_0 : decode cX11_rate 0 = .ok (.aload_n 0, 1) := by decide +kernel
theorem dX11_rate_1 : decode cX11_rate 1 = .ok (.iconst 0, 1) := by decide +kernel
theorem dX11_rate_2 : decode cX11_rate 2 = .ok (.putfield 112, 3) := by decide +kernel
theorem dX11_rate_5 : decode cX11_rate 5 = .ok (.aload_n 0, 1) := by decide +kernel
theorem dX11_rate_6 : decode cX11_rate 6 = .ok (.getfield 310, 3) := by decide +kernel
theorem dX11_rate_9 : decode cX11_rate 9 = .ok (.ifCond .ne 9, 3) := by decide +kernel
theorem dX11_rate_12 : decode cX11_rate 12 = .ok (.aload_n 0, 1) := by decide +kernel
theorem dX11_rate_13 : decode cX11_rate 13 = .ok (.iconst 0, 1) := by decide +kernel
theorem dX11_rate_14 : decode cX11_rate 14 = .ok (.invokevirtual 426, 3) := by decide +kernel
theorem dX11_rate_17 : decode cX11_rate 17 = .ok (.ireturn, 1) := by decide +kernel
theorem dX11_rate_18 : decode cX11_rate 18 = .ok (.iload_n 1, 1) := by decide +kernel
theorem dX11_rate_19 : decode cX11_rate 19 = .ok (.i2l, 1) := by decide +kernel
theorem dX11_rate_20 : decode cX11_rate 20 = .ok (.lconst 0, 1) := by decide +kernel
theorem dX11_rate_21 : decode cX11_rate 21 = .ok (.ldc2_w 444, 3) := by decide +kernel
theorem dX11_rate_24 : decode cX11_rate 24 = .ok (.invokestatic 233, 3) := by decide +kernel
theorem dX11_rate_27 : decode cX11_rate 27 = .ok (.ifCond .ne 9, 3) := by decide +kernel
theorem dX11_rate_30 : decode cX11_rate 30 = .ok (.aload_n 0, 1) := by decide +kernel
theorem dX11_rate_31 : decode cX11_rate 31 = .ok (.iconst 1, 1) := by decide +kernel
theorem dX11_rate_32 : decode cX11_rate 32 = .ok (.invokevirtual 426, 3) := by decide +kernel
theorem dX11_rate_35 : decode cX11_rate 35 = .ok (.ireturn, 1) := by decide +kernel
theorem dX11_rate_36 : decode cX11_rate 36 = .ok (.iload_n 1, 1) := by decide +kernel
theorem dX11_rate_37 : decode cX11_rate 37 = .ok (.aload_n 0, 1) := by decide +kernel
theorem dX11_rate_38 : decode cX11_rate 38 = .ok (.getfield 61, 3) := by decide +kernel
theorem dX11_rate_41 : decode cX11_rate 41 = .ok (.bipush 127, 2) := by decide +kernel
theorem dX11_rate_43 : decode cX11_rate 43 = .ok (.iaload, 1) := by decide +kernel
theorem dX11_rate_44 : decode cX11_rate 44 = .ok (.if_icmp .ne 9, 3) := by decide +kernel
theorem dX11_rate_47 : decode cX11_rate 47 = .ok (.aload_n 0, 1) := by decide +kernel
theorem dX11_rate_48 : decode cX11_rate 48 = .ok (.iconst 2, 1) := by decide +kernel
theorem dX11_rate_49 : decode cX11_rate 49 = .ok (.invokevirtual 426, 3) := by decide +kernel
theorem dX11_rate_52 : decode cX11_rate 52 = .ok (.ireturn, 1) := by decide +kernel
theorem dX11_rate_53 : decode cX11_rate 53 = .ok (.aload_n 0, 1) := by decide +kernel
theorem dX11_rate_54 : decode cX11_rate 54 = .ok (.invokevirtual 429, 3) := by decide +kernel
theorem dX11_rate_57 : decode cX11_rate 57 = .ok (.aload_n 0, 1) := by decide +kernel
theorem dX11_rate_58 : decode cX11_rate 58 = .ok (.getfield 61, 3) := by decide +kernel
theorem dX11_rate_61 : decode cX11_rate 61 = .ok (.bipush 127, 2) := by decide +kernel
theorem dX11_rate_63 : decode cX11_rate 63 = .ok (.iaload, 1) := by decide +kernel
theorem dX11_rate_64 : decode cX11_rate 64 = .ok (.istore_n 2, 1) := by decide +kernel
theorem dX11_rate_65 : decode cX11_rate 65 = .ok (.aload_n 0, 1) := by decide +kernel
theorem dX11_rate_66 : decode cX11_rate 66 = .ok (.getfield 61, 3) := by decide +kernel
theorem dX11_rate_69 : decode cX11_rate 69 = .ok (.bipush 127, 2) := by decide +kernel
theorem dX11_rate_71 : decode cX11_rate 71 = .ok (.iload_n 1, 1) := by decide +kernel
theorem dX11_rate_72 : decode cX11_rate 72 = .ok (.iastore, 1) := by decide +kernel
theorem dX11_rate_73 : decode cX11_rate 73 = .ok (.iload_n 2, 1) := by decide +kernel
theorem dX11_rate_74 : decode cX11_rate 74 = .ok (.ireturn, 1) := by decide +kernel
def f_Model_rate (σ : Mem) (x1 : Int32) : Option (Int32 × Mem) :=
  if (mI (sI σ 565 0 (0 : Int32)) 565 27) = (0 : Int32) then
    (f_Model_refused (sI σ 565 0 (0 : Int32)) (0 : Int32)).bind fun q8 =>
    some (q8.1, q8.2)
  else
    (f_Model_isIn (sI σ 565 0 (0 : Int32)) ((x1).toInt64) (0 : Int64) (8 : Int64)).bind fun q2 =>
    if q2 = (0 : Int32) then
      (f_Model_refused (sI σ 565 0 (0 : Int32)) (1 : Int32)).bind fun q7 =>
      some (q7.1, q7.2)
    else
      if x1 = (mI (sI σ 565 0 (0 : Int32)) 578 (127 : Int32).toNatClampNeg) then
        (f_Model_refused (sI σ 565 0 (0 : Int32)) (2 : Int32)).bind fun q6 =>
        some (q6.1, q6.2)
      else
        (f_Model_remember (sI σ 565 0 (0 : Int32))).bind fun q5 =>
        some ((mI q5 578 (127 : Int32).toNatClampNeg), (sI q5 578 (127 : Int32).toNatClampNeg x1))
set_option maxHeartbeats 4000000 in
set_option maxRecDepth 20000 in
theorem g_Model_rate (X : Cx θ p s m args c cX11_rate 3 RX11) (hr : meth.sig.returnType = some .int) (hlk : meth.locks = false)  {σ : Mem} {x1 : Int32} {r : Int32 × Mem}  (h : f_Model_rate σ x1 = some r) : GB θ p l e 1 s m args below meth c 3 (some (.int r.1), r.2) 0 [(0, .ref (be θ + 565)), (1, .int x1)] [] σ := by
  unfold f_Model_rate at h
  refine g_aload_n X dX11_rate_0 rfl 0 rfl ?_
  refine g_iconst X dX11_rate_1 (v := (0 : Int32)) ic_0 ?_
  refine g_putI X fl_RX11_112 dX11_rate_2 kd_565 rfl rfl rfl ?_
  refine g_aload_n X dX11_rate_5 rfl 0 rfl ?_
  refine g_get X fl_RX11_310 dX11_rate_6 kd_565 (v := .int (mI (sI σ 565 0 (0 : Int32)) 565 27)) rfl ?_
  refine g_if_ne (tgt := 18) X dX11_rate_9 (by decide) (fun c1 => ?_) (fun c1 => ?_)
  · replace h := (if_neg c1).symm.trans h
    refine g_iload_n X dX11_rate_18 rfl 1 rfl ?_
    refine g_i2l X dX11_rate_19 (v := ((x1).toInt64)) rfl ?_
    refine g_lconst X dX11_rate_20 (v := (0 : Int64)) rfl ?_
    refine g_ldc2 X cst_RX11_444 dX11_rate_21 ?_
    obtain ⟨q2, hq2, h⟩ := Option.bind_eq_some_iff.mp h
    refine g_cS X (c_Model_isIn  hq2) lk_RX11_233 my_X11_isIn (As := [.long ((x1).toInt64), .long (0 : Int64), .long (8 : Int64)]) (rest := []) rfl rfl (Nat.le_of_ble_eq_true rfl) ⟨(Nat.le_of_ble_eq_true rfl), (Nat.le_of_ble_eq_true rfl)⟩ ⟨(Nat.le_of_ble_eq_true rfl), (Nat.le_of_ble_eq_true rfl)⟩ dX11_rate_24 (st' := [.int q2]) (σ' := (sI σ 565 0 (0 : Int32))) rfl rfl ?_
    refine g_if_ne (tgt := 36) X dX11_rate_27 (by decide) (fun c3 => ?_) (fun c3 => ?_)
    · replace h := (if_neg c3).symm.trans h
      refine g_iload_n X dX11_rate_36 rfl 1 rfl ?_
      refine g_aload_n X dX11_rate_37 rfl 0 rfl ?_
      refine g_get X fl_RX11_61 dX11_rate_38 kd_565 (v := .ref (be θ + 578)) rfl ?_
      refine g_bipush X dX11_rate_41 (v := (127 : Int32)) bp_127 ?_
      refine g_iald X kd_578 ln_578 (inb_in (show inb (127 : Int32) 312 = true by decide)) dX11_rate_43 ?_
      refine g_icmp_ne (tgt := 53) X dX11_rate_44 (by decide) (fun c4 => ?_) (fun c4 => ?_)
      · replace h := (if_neg c4).symm.trans h
        refine g_aload_n X dX11_rate_53 rfl 0 rfl ?_
        obtain ⟨q5, hq5, h⟩ := Option.bind_eq_some_iff.mp h
        refine g_cV X (c_Model_remember  hq5) lk_RX11_429 my_X11_remember (a := 565) (ci := 11) kd_565 (by decide) rfl (As := []) (rest := []) rfl rfl (Nat.le_of_ble_eq_true rfl) ⟨(Nat.le_of_ble_eq_true rfl), (Nat.le_of_ble_eq_true rfl)⟩ ⟨(Nat.le_of_ble_eq_true rfl), (Nat.le_of_ble_eq_true rfl)⟩ dX11_rate_54 (st' := []) (σ' := q5) rfl rfl ?_
        refine g_aload_n X dX11_rate_57 rfl 0 rfl ?_
        refine g_get X fl_RX11_61 dX11_rate_58 kd_565 (v := .ref (be θ + 578)) rfl ?_
        refine g_bipush X dX11_rate_61 (v := (127 : Int32)) bp_127 ?_
        refine g_iald X kd_578 ln_578 (inb_in (show inb (127 : Int32) 312 = true by decide)) dX11_rate_63 ?_
        refine g_istore_n X dX11_rate_64 rfl (by decide) (lv' := [(2, .int (mI q5 578 (127 : Int32).toNatClampNeg)), (0, .ref (be θ + 565)), (1, .int x1)]) rfl ?_
        refine g_aload_n X dX11_rate_65 rfl 1 rfl ?_
        refine g_get X fl_RX11_61 dX11_rate_66 kd_565 (v := .ref (be θ + 578)) rfl ?_
        refine g_bipush X dX11_rate_69 (v := (127 : Int32)) bp_127 ?_
        refine g_iload_n X dX11_rate_71 rfl 2 rfl ?_
        refine g_iast X kd_578 ln_578 (inb_in (show inb (127 : Int32) 312 = true by decide)) dX11_rate_72 ?_
        refine g_iload_n X dX11_rate_73 rfl 0 rfl ?_
        exact g_iret X hr hlk dX11_rate_74 (by cases h; rfl)
      · replace h := (if_pos c4).symm.trans h
        refine g_aload_n X dX11_rate_47 rfl 0 rfl ?_
        refine g_iconst X dX11_rate_48 (v := (2 : Int32)) ic_2 ?_
        obtain ⟨q6, hq6, h⟩ := Option.bind_eq_some_iff.mp h
        refine g_cV X (c_Model_refused  hq6) lk_RX11_426 my_X11_refused (a := 565) (ci := 11) kd_565 (by decide) rfl (As := [.int (2 : Int32)]) (rest := []) rfl rfl (Nat.le_of_ble_eq_true rfl) ⟨(Nat.le_of_ble_eq_true rfl), (Nat.le_of_ble_eq_true rfl)⟩ ⟨(Nat.le_of_ble_eq_true rfl), (Nat.le_of_ble_eq_true rfl)⟩ dX11_rate_49 (st' := [.int q6.1]) (σ' := q6.2) rfl rfl ?_
        exact g_iret X hr hlk dX11_rate_52 (by cases h; rfl)
    · replace h := (if_pos c3).symm.trans h
      refine g_aload_n X dX11_rate_30 rfl 0 rfl ?_
      refine g_iconst X dX11_rate_31 (v := (1 : Int32)) ic_1 ?_
      obtain ⟨q7, hq7, h⟩ := Option.bind_eq_some_iff.mp h
      refine g_cV X (c_Model_refused  hq7) lk_RX11_426 my_X11_refused (a := 565) (ci := 11) kd_565 (by decide) rfl (As := [.int (1 : Int32)]) (rest := []) rfl rfl (Nat.le_of_ble_eq_true rfl) ⟨(Nat.le_of_ble_eq_true rfl), (Nat.le_of_ble_eq_true rfl)⟩ ⟨(Nat.le_of_ble_eq_true rfl), (Nat.le_of_ble_eq_true rfl)⟩ dX11_rate_32 (st' := [.int q7.1]) (σ' := q7.2) rfl rfl ?_
      exact g_iret X hr hlk dX11_rate_35 (by cases h; rfl)
  · replace h := (if_pos c1).symm.trans h
    refine g_aload_n X dX11_rate_12 rfl 0 rfl ?_
    refine g_iconst X dX11_rate_13 (v := (0 : Int32)) ic_0 ?_
    obtain ⟨q8, hq8, h⟩ := Option.bind_eq_some_iff.mp h
    refine g_cV X (c_Model_refused  hq8) lk_RX11_426 my_X11_refused (a := 565) (ci := 11) kd_565 (by decide) rfl (As := [.int (0 : Int32)]) (rest := []) rfl rfl (Nat.le_of_ble_eq_true rfl) ⟨(Nat.le_of_ble_eq_true rfl), (Nat.le_of_ble_eq_true rfl)⟩ ⟨(Nat.le_of_ble_eq_true rfl), (Nat.le_of_ble_eq_true rfl)⟩ dX11_rate_14 (st' := [.int q8.1]) (σ' := q8.2) rfl rfl ?_
    exact g_iret X hr hlk dX11_rate_17 (by cases h; rfl)
set_option maxHeartbeats 4000000 in
set_option maxRecDepth 20000 in
theorem c_Model_rate {θ : Th} {l : Launch} {σ : Mem} {x1 : Int32} {r : Int32 × Mem}  (h : f_Model_rate σ x1 = some r) : Cn θ l yX11_rate cX11_rate 3 (some .int) 1 0 0 [.ref (be θ + 565), .int x1] σ (some (.int r.1), r.2) :=
  Cn.of (by decide) (Nat.le_of_ble_eq_true rfl) (fun p e s m below meth c X hr hlk => g_Model_rate X hr hlk  h)
theorem dX11_gift_0 : decode cX11_gift 0 = .ok (.aload_n 0, 1) := by decide +kernel
theorem dX11_gift_1 : decode cX11_gift 1 = .ok (.iconst 0, 1) := by decide +kernel
theorem dX11_gift_2 : decode cX11_gift 2 = .ok (.putfield 112, 3) := by decide +kernel
theorem dX11_gift_5 : decode cX11_gift 5 = .ok (.aload_n 0, 1) := by decide +kernel
theorem dX11_gift_6 : decode cX11_gift 6 = .ok (.iload_n 1, 1) := by decide +kernel
theorem dX11_gift_7 : decode cX11_gift 7 = .ok (.invokevirtual 412, 3) := by decide +kernel
theorem dX11_gift_10 : decode cX11_gift 10 = .ok (.ifCond .ne 9, 3) := by decide +kernel
theorem dX11_gift_13 : decode cX11_gift 13 = .ok (.aload_n 0, 1) := by decide +kernel
theorem dX11_gift_14 : decode cX11_gift 14 = .ok (.iconst 0, 1) := by decide +kernel
theorem dX11_gift_15 : decode cX11_gift 15 = .ok (.invokevirtual 426, 3) := by decide +kernel
theorem dX11_gift_18 : decode cX11_gift 18 = .ok (.ireturn, 1) := by decide +kernel
theorem dX11_gift_19 : decode cX11_gift 19 = .ok (.iload_n 2, 1) := by decide +kernel
theorem dX11_gift_20 : decode cX11_gift 20 = .ok (.i2l, 1) := by decide +kernel
theorem dX11_gift_21 : decode cX11_gift 21 = .ok (.lconst 1, 1) := by decide +kernel
theorem dX11_gift_22 : decode cX11_gift 22 = .ok (.ldc2_w 446, 3) := by decide +kernel
theorem dX11_gift_25 : decode cX11_gift 25 = .ok (.invokestatic 233, 3) := by decide +kernel
theorem dX11_gift_28 : decode cX11_gift 28 = .ok (.ifCond .eq 20, 3) := by decide +kernel
theorem dX11_gift_31 : decode cX11_gift 31 = .ok (.aload_n 0, 1) := by decide +kernel
theorem dX11_gift_32 : decode cX11_gift 32 = .ok (.getfield 61, 3) := by decide +kernel
theorem dX11_gift_35 : decode cX11_gift 35 = .ok (.bipush 24, 2) := by decide +kernel
theorem dX11_gift_37 : decode cX11_gift 37 = .ok (.iload_n 1, 1) := by decide +kernel
theorem dX11_gift_38 : decode cX11_gift 38 = .ok (.iadd, 1) := by decide +kernel
theorem dX11_gift_39 : decode cX11_gift 39 = .ok (.iaload, 1) := by decide +kernel
theorem dX11_gift_40 : decode cX11_gift 40 = .ok (.iload_n 2, 1) := by decide +kernel
theorem dX11_gift_41 : decode cX11_gift 41 = .ok (.iadd, 1) := by decide +kernel
theorem dX11_gift_42 : decode cX11_gift 42 = .ok (.sipush 999, 3) := by decide +kernel
theorem dX11_gift_45 : decode cX11_gift 45 = .ok (.if_icmp .le 9, 3) := by decide +kernel
theorem dX11_gift_48 : decode cX11_gift 48 = .ok (.aload_n 0, 1) := by decide +kernel
theorem dX11_gift_49 : decode cX11_gift 49 = .ok (.iconst 1, 1) := by decide +kernel
theorem dX11_gift_50 : decode cX11_gift 50 = .ok (.invokevirtual 426, 3) := by decide +kernel
theorem dX11_gift_53 : decode cX11_gift 53 = .ok (.ireturn, 1) := by decide +kernel
theorem dX11_gift_54 : decode cX11_gift 54 = .ok (.aload_n 0, 1) := by decide +kernel
theorem dX11_gift_55 : decode cX11_gift 55 = .ok (.invokevirtual 429, 3) := by decide +kernel
theorem dX11_gift_58 : decode cX11_gift 58 = .ok (.aload_n 0, 1) := by decide +kernel
theorem dX11_gift_59 : decode cX11_gift 59 = .ok (.getfield 61, 3) := by decide +kernel
theorem dX11_gift_62 : decode cX11_gift 62 = .ok (.bipush 24, 2) := by decide +kernel
theorem dX11_gift_64 : decode cX11_gift 64 = .ok (.iload_n 1, 1) := by decide +kernel
theorem dX11_gift_65 : decode cX11_gift 65 = .ok (.iadd, 1) := by decide +kernel
theorem dX11_gift_66 : decode cX11_gift 66 = .ok (.dup2, 1) := by decide +kernel
theorem dX11_gift_67 : decode cX11_gift 67 = .ok (.iaload, 1) := by decide +kernel
theorem dX11_gift_68 : decode cX11_gift 68 = .ok (.iload_n 2, 1) := by decide +kernel
theorem dX11_gift_69 : decode cX11_gift 69 = .ok (.iadd, 1) := by decide +kernel
theorem dX11_gift_70 : decode cX11_gift 70 = .ok (.iastore, 1) := by decide +kernel
theorem dX11_gift_71 : decode cX11_gift 71 = .ok (.aload_n 0, 1) := by decide +kernel
theorem dX11_gift_72 : decode cX11_gift 72 = .ok (.getfield 61, 3) := by decide +kernel
theorem dX11_gift_75 : decode cX11_gift 75 = .ok (.bipush 24, 2) := by decide +kernel
theorem dX11_gift_77 : decode cX11_gift 77 = .ok (.iload_n 1, 1) := by decide +kernel
theorem dX11_gift_78 : decode cX11_gift 78 = .ok (.iadd, 1) := by decide +kernel
theorem dX11_gift_79 : decode cX11_gift 79 = .ok (.iaload, 1) := by decide +kernel
theorem dX11_gift_80 : decode cX11_gift 80 = .ok (.ireturn, 1) := by decide +kernel
def f_Model_gift (σ : Mem) (x1 : Int32) (x2 : Int32) : Option (Int32 × Mem) :=
  (f_Model_isBuyer (sI σ 565 0 (0 : Int32)) x1).bind fun q1 =>
  if q1 = (0 : Int32) then
    (f_Model_refused (sI σ 565 0 (0 : Int32)) (0 : Int32)).bind fun q10 =>
    some (q10.1, q10.2)
  else
    (f_Model_isIn (sI σ 565 0 (0 : Int32)) ((x2).toInt64) (1 : Int64) (50 : Int64)).bind fun q3 =>
    if q3 = (0 : Int32) then
      (f_Model_refused (sI σ 565 0 (0 : Int32)) (1 : Int32)).bind fun q5 =>
      some (q5.1, q5.2)
    else
      if inb ((24 : Int32) + x1) 312 then
        if ((mI (sI σ 565 0 (0 : Int32)) 578 ((24 : Int32) + x1).toNatClampNeg) + x2) ≤ (999 : Int32) then
          (f_Model_remember (sI σ 565 0 (0 : Int32))).bind fun q8 =>
          some ((mI (sI q8 578 ((24 : Int32) + x1).toNatClampNeg ((mI q8 578 ((24 : Int32) + x1).toNatClampNeg) + x2)) 578 ((24 : Int32) + x1).toNatClampNeg), (sI q8 578 ((24 : Int32) + x1).toNatClampNeg ((mI q8 578 ((24 : Int32) + x1).toNatClampNeg) + x2)))
        else
          (f_Model_refused (sI σ 565 0 (0 : Int32)) (1 : Int32)).bind fun q9 =>
          some (q9.1, q9.2)
      else none
set_option maxHeartbeats 4000000 in
set_option maxRecDepth 20000 in
theorem g_Model_gift (X : Cx θ p s m args c cX11_gift 3 RX11) (hr : meth.sig.returnType = some .int) (hlk : meth.locks = false)  {σ : Mem} {x1 : Int32} {x2 : Int32} {r : Int32 × Mem}  (h : f_Model_gift σ x1 x2 = some r) : GB θ p l e 1 s m args below meth c 3 (some (.int r.1), r.2) 0 [(0, .ref (be θ + 565)), (1, .int x1), (2, .int x2)] [] σ := by
  unfold f_Model_gift at h
  refine g_aload_n X dX11_gift_0 rfl 0 rfl ?_
  refine g_iconst X dX11_gift_1 (v := (0 : Int32)) ic_0 ?_
  refine g_putI X fl_RX11_112 dX11_gift_2 kd_565 rfl rfl rfl ?_
  refine g_aload_n X dX11_gift_5 rfl 0 rfl ?_
  refine g_iload_n X dX11_gift_6 rfl 1 rfl ?_
  obtain ⟨q1, hq1, h⟩ := Option.bind_eq_some_iff.mp h
  refine g_cV X (c_Model_isBuyer  hq1) lk_RX11_412 my_X11_isBuyer (a := 565) (ci := 11) kd_565 (by decide) rfl (As := [.int x1]) (rest := []) rfl rfl (Nat.le_of_ble_eq_true rfl) ⟨(Nat.le_of_ble_eq_true rfl), (Nat.le_of_ble_eq_true rfl)⟩ ⟨(Nat.le_of_ble_eq_true rfl), (Nat.le_of_ble_eq_true rfl)⟩ dX11_gift_7 (st' := [.int q1]) (σ' := (sI σ 565 0 (0 : Int32))) rfl rfl ?_
  refine g_if_ne (tgt := 19) X dX11_gift_10 (by decide) (fun c2 => ?_) (fun c2 => ?_)
  · replace h := (if_neg c2).symm.trans h
    refine g_iload_n X dX11_gift_19 rfl 2 rfl ?_
    refine g_i2l X dX11_gift_20 (v := ((x2).toInt64)) rfl ?_
    refine g_lconst X dX11_gift_21 (v := (1 : Int64)) rfl ?_
    refine g_ldc2 X cst_RX11_446 dX11_gift_22 ?_
    obtain ⟨q3, hq3, h⟩ := Option.bind_eq_some_iff.mp h
    refine g_cS X (c_Model_isIn  hq3) lk_RX11_233 my_X11_isIn (As := [.long ((x2).toInt64), .long (1 : Int64), .long (50 : Int64)]) (rest := []) rfl rfl (Nat.le_of_ble_eq_true rfl) ⟨(Nat.le_of_ble_eq_true rfl), (Nat.le_of_ble_eq_true rfl)⟩ ⟨(Nat.le_of_ble_eq_true rfl), (Nat.le_of_ble_eq_true rfl)⟩ dX11_gift_25 (st' := [.int q3]) (σ' := (sI σ 565 0 (0 : Int32))) rfl rfl ?_
    refine g_if_eq (tgt := 48) X dX11_gift_28 (by decide) (fun c4 => ?_) (fun c4 => ?_)
    · replace h := (if_pos c4).symm.trans h
      refine g_aload_n X dX11_gift_48 rfl 0 rfl ?_
      refine g_iconst X dX11_gift_49 (v := (1 : Int32)) ic_1 ?_
      obtain ⟨q5, hq5, h⟩ := Option.bind_eq_some_iff.mp h
      refine g_cV X (c_Model_refused  hq5) lk_RX11_426 my_X11_refused (a := 565) (ci := 11) kd_565 (by decide) rfl (As := [.int (1 : Int32)]) (rest := []) rfl rfl (Nat.le_of_ble_eq_true rfl) ⟨(Nat.le_of_ble_eq_true rfl), (Nat.le_of_ble_eq_true rfl)⟩ ⟨(Nat.le_of_ble_eq_true rfl), (Nat.le_of_ble_eq_true rfl)⟩ dX11_gift_50 (st' := [.int q5.1]) (σ' := q5.2) rfl rfl ?_
      exact g_iret X hr hlk dX11_gift_53 (by cases h; rfl)
    · replace h := (if_neg c4).symm.trans h
      refine g_aload_n X dX11_gift_31 rfl 0 rfl ?_
      refine g_get X fl_RX11_61 dX11_gift_32 kd_565 (v := .ref (be θ + 578)) rfl ?_
      refine g_bipush X dX11_gift_35 (v := (24 : Int32)) bp_24 ?_
      refine g_iload_n X dX11_gift_37 rfl 1 rfl ?_
      refine g_iadd X dX11_gift_38 ?_
      obtain ⟨g6, h⟩ := ite_some h
      refine g_iald X kd_578 ln_578 (inb_in g6) dX11_gift_39 ?_
      refine g_iload_n X dX11_gift_40 rfl 2 rfl ?_
      refine g_iadd X dX11_gift_41 ?_
      refine g_sipush X dX11_gift_42 (v := (999 : Int32)) sp_999 ?_
      refine g_icmp_le (tgt := 54) X dX11_gift_45 (by decide) (fun c7 => ?_) (fun c7 => ?_)
      · replace h := (if_pos c7).symm.trans h
        refine g_aload_n X dX11_gift_54 rfl 0 rfl ?_
        obtain ⟨q8, hq8, h⟩ := Option.bind_eq_some_iff.mp h
        refine g_cV X (c_Model_remember  hq8) lk_RX11_429 my_X11_remember (a := 565) (ci := 11) kd_565 (by decide) rfl (As := []) (rest := []) rfl rfl (Nat.le_of_ble_eq_true rfl) ⟨(Nat.le_of_ble_eq_true rfl), (Nat.le_of_ble_eq_true rfl)⟩ ⟨(Nat.le_of_ble_eq_true rfl), (Nat.le_of_ble_eq_true rfl)⟩ dX11_gift_55 (st' := []) (σ' := q8) rfl rfl ?_
        refine g_aload_n X dX11_gift_58 rfl 0 rfl ?_
        refine g_get X fl_RX11_61 dX11_gift_59 kd_565 (v := .ref (be θ + 578)) rfl ?_
        refine g_bipush X dX11_gift_62 (v := (24 : Int32)) bp_24 ?_
        refine g_iload_n X dX11_gift_64 rfl 1 rfl ?_
        refine g_iadd X dX11_gift_65 ?_
        refine g_dup2 X dX11_gift_66 rfl rfl ?_
        refine g_iald X kd_578 ln_578 (inb_in g6) dX11_gift_67 ?_
        refine g_iload_n X dX11_gift_68 rfl 2 rfl ?_
        refine g_iadd X dX11_gift_69 ?_
        refine g_iast X kd_578 ln_578 (inb_in g6) dX11_gift_70 ?_
        refine g_aload_n X dX11_gift_71 rfl 0 rfl ?_
        refine g_get X fl_RX11_61 dX11_gift_72 kd_565 (v := .ref (be θ + 578)) rfl ?_
        refine g_bipush X dX11_gift_75 (v := (24 : Int32)) bp_24 ?_
        refine g_iload_n X dX11_gift_77 rfl 1 rfl ?_
        refine g_iadd X dX11_gift_78 ?_
        refine g_iald X kd_578 ln_578 (inb_in g6) dX11_gift_79 ?_
        exact g_iret X hr hlk dX11_gift_80 (by cases h; rfl)
      · replace h := (if_neg c7).symm.trans h
        refine g_aload_n X dX11_gift_48 rfl 0 rfl ?_
        refine g_iconst X dX11_gift_49 (v := (1 : Int32)) ic_1 ?_
        obtain ⟨q9, hq9, h⟩ := Option.bind_eq_some_iff.mp h
        refine g_cV X (c_Model_refused  hq9) lk_RX11_426 my_X11_refused (a := 565) (ci := 11) kd_565 (by decide) rfl (As := [.int (1 : Int32)]) (rest := []) rfl rfl (Nat.le_of_ble_eq_true rfl) ⟨(Nat.le_of_ble_eq_true rfl), (Nat.le_of_ble_eq_true rfl)⟩ ⟨(Nat.le_of_ble_eq_true rfl), (Nat.le_of_ble_eq_true rfl)⟩ dX11_gift_50 (st' := [.int q9.1]) (σ' := q9.2) rfl rfl ?_
        exact g_iret X hr hlk dX11_gift_53 (by cases h; rfl)
  · replace h := (if_pos c2).symm.trans h
    refine g_aload_n X dX11_gift_13 rfl 0 rfl ?_
    refine g_iconst X dX11_gift_14 (v := (0 : Int32)) ic_0 ?_
    obtain ⟨q10, hq10, h⟩ := Option.bind_eq_some_iff.mp h
    refine g_cV X (c_Model_refused  hq10) lk_RX11_426 my_X11_refused (a := 565) (ci := 11) kd_565 (by decide) rfl (As := [.int (0 : Int32)]) (rest := []) rfl rfl (Nat.le_of_ble_eq_true rfl) ⟨(Nat.le_of_ble_eq_true rfl), (Nat.le_of_ble_eq_true rfl)⟩ ⟨(Nat.le_of_ble_eq_true rfl), (Nat.le_of_ble_eq_true rfl)⟩ dX11_gift_15 (st' := [.int q10.1]) (σ' := q10.2) rfl rfl ?_
    exact g_iret X hr hlk dX11_gift_18 (by cases h; rfl)
set_option maxHeartbeats 4000000 in
set_option maxRecDepth 20000 in
theorem c_Model_gift {θ : Th} {l : Launch} {σ : Mem} {x1 : Int32} {x2 : Int32} {r : Int32 × Mem}  (h : f_Model_gift σ x1 x2 = some r) : Cn θ l yX11_gift cX11_gift 3 (some .int) 1 0 0 [.ref (be θ + 565), .int x1, .int x2] σ (some (.int r.1), r.2) :=
  Cn.of (by decide) (Nat.le_of_ble_eq_true rfl) (fun p e s m below meth c X hr hlk => g_Model_gift X hr hlk  h)
theorem dX11_draw_0 : decode cX11_draw 0 = .ok (.aload_n 0, 1) := by decide +kernel
theorem dX11_draw_1 : decode cX11_draw 1 = .ok (.aload_n 0, 1) := by decide +kernel
theorem dX11_draw_2 : decode cX11_draw 2 = .ok (.getfield 448, 3) := by decide +kernel
theorem dX11_draw_5 : decode cX11_draw 5 = .ok (.ldc2_w 452, 3) := by decide +kernel
theorem dX11_draw_8 : decode cX11_draw 8 = .ok (.lmul, 1) := by decide +kernel
theorem dX11_draw_9 : decode cX11_draw 9 = .ok (.ldc2_w 454, 3) := by decide +kernel
theorem dX11_draw_12 : decode cX11_draw 12 = .ok (.ladd, 1) := by decide +kernel
theorem dX11_draw_13 : decode cX11_draw 13 = .ok (.putfield 448, 3) := by decide +kernel
theorem dX11_draw_16 : decode cX11_draw 16 = .ok (.aload_n 0, 1) := by decide +kernel
theorem dX11_draw_17 : decode cX11_draw 17 = .ok (.getfield 448, 3) := by decide +kernel
theorem dX11_draw_20 : decode cX11_draw 20 = .ok (.bipush 33, 2) := by decide +kernel
theorem dX11_draw_22 : decode cX11_draw 22 = .ok (.lushr, 1) := by decide +kernel
theorem dX11_draw_23 : decode cX11_draw 23 = .ok (.iload_n 1, 1) := by decide +kernel
theorem dX11_draw_24 : decode cX11_draw 24 = .ok (.i2l, 1) := by decide +kernel
theorem dX11_draw_25 : decode cX11_draw 25 = .ok (.lrem, 1) := by decide +kernel
theorem dX11_draw_26 : decode cX11_draw 26 = .ok (.l2i, 1) := by decide +kernel
theorem dX11_draw_27 : decode cX11_draw 27 = .ok (.ireturn, 1) := by decide +kernel
def f_Model_draw (σ : Mem) (x1 : Int32) : Option (Int32 × Mem) :=
  if ((x1).toInt64) = 0 then none else
  some (((((lush (mL (sL σ 565 45 (((mL σ 565 45) * (6364136223846793005 : Int64)) + (1442695040888963407 : Int64))) 565 45) (33 : Int32)) - (lush (mL (sL σ 565 45 (((mL σ 565 45) * (6364136223846793005 : Int64)) + (1442695040888963407 : Int64))) 565 45) (33 : Int32)) / ((x1).toInt64) * ((x1).toInt64))).toInt32), (sL σ 565 45 (((mL σ 565 45) * (6364136223846793005 : Int64)) + (1442695040888963407 : Int64))))
set_option maxHeartbeats 4000000 in
set_option maxRecDepth 20000 in
theorem g_Model_draw (X : Cx θ p s m args c cX11_draw 2 RX11) (hr : meth.sig.returnType = some .int) (hlk : meth.locks = false)  {σ : Mem} {x1 : Int32} {r : Int32 × Mem}  (h : f_Model_draw σ x1 = some r) : GB θ p l e 0 s m args below meth c 2 (some (.int r.1), r.2) 0 [(0, .ref (be θ + 565)), (1, .int x1)] [] σ := by
  unfold f_Model_draw at h
  refine g_aload_n X dX11_draw_0 rfl 0 rfl ?_
  refine g_aload_n X dX11_draw_1 rfl 0 rfl ?_
  refine g_get X fl_RX11_448 dX11_draw_2 kd_565 (v := .long (mL σ 565 45)) rfl ?_
  refine g_ldc2 X cst_RX11_452 dX11_draw_5 ?_
  refine g_lmul X dX11_draw_8 ?_
  refine g_ldc2 X cst_RX11_454 dX11_draw_9 ?_
  refine g_ladd X dX11_draw_12 ?_
  refine g_putJ X fl_RX11_448 dX11_draw_13 kd_565 rfl rfl rfl ?_
  refine g_aload_n X dX11_draw_16 rfl 0 rfl ?_
  refine g_get X fl_RX11_448 dX11_draw_17 kd_565 (v := .long (mL (sL σ 565 45 (((mL σ 565 45) * (6364136223846793005 : Int64)) + (1442695040888963407 : Int64))) 565 45)) rfl ?_
  refine g_bipush X dX11_draw_20 (v := (33 : Int32)) bp_33 ?_
  refine g_lushr X dX11_draw_22 (v := (lush (mL (sL σ 565 45 (((mL σ 565 45) * (6364136223846793005 : Int64)) + (1442695040888963407 : Int64))) 565 45) (33 : Int32))) rfl ?_
  refine g_iload_n X dX11_draw_23 rfl 1 rfl ?_
  refine g_i2l X dX11_draw_24 (v := ((x1).toInt64)) rfl ?_
  obtain ⟨g1, h⟩ := ite_none h
  refine g_lrem X dX11_draw_25 g1 ?_
  refine g_l2i X dX11_draw_26 (v := ((((lush (mL (sL σ 565 45 (((mL σ 565 45) * (6364136223846793005 : Int64)) + (1442695040888963407 : Int64))) 565 45) (33 : Int32)) - (lush (mL (sL σ 565 45 (((mL σ 565 45) * (6364136223846793005 : Int64)) + (1442695040888963407 : Int64))) 565 45) (33 : Int32)) / ((x1).toInt64) * ((x1).toInt64))).toInt32)) rfl ?_
  exact g_iret X hr hlk dX11_draw_27 (by cases h; rfl)
set_option maxHeartbeats 4000000 in
set_option maxRecDepth 20000 in
theorem c_Model_draw {θ : Th} {l : Launch} {σ : Mem} {x1 : Int32} {r : Int32 × Mem}  (h : f_Model_draw σ x1 = some r) : Cn θ l yX11_draw cX11_draw 2 (some .int) 0 0 0 [.ref (be θ + 565), .int x1] σ (some (.int r.1), r.2) :=
  Cn.of (by decide) (Nat.le_of_ble_eq_true rfl) (fun p e s m below meth c X hr hlk => g_Model_draw X hr hlk  h)
theorem dX11_years_0 : decode cX11_years 0 = .ok (.aload_n 0, 1) := by decide +kernel
theorem dX11_years_1 : decode cX11_years 1 = .ok (.iconst 0, 1) := by decide +kernel
theorem dX11_years_2 : decode cX11_years 2 = .ok (.putfield 112, 3) := by decide +kernel
theorem dX11_years_5 : decode cX11_years 5 = .ok (.aload_n 0, 1) := by decide +kernel
theorem dX11_years_6 : decode cX11_years 6 = .ok (.getfield 310, 3) := by decide +kernel
theorem dX11_years_9 : decode cX11_years 9 = .ok (.ifCond .eq 31, 3) := by decide +kernel
theorem dX11_years_12 : decode cX11_years 12 = .ok (.iload_n 1, 1) := by decide +kernel
theorem dX11_years_13 : decode cX11_years 13 = .ok (.i2l, 1) := by decide +kernel
theorem dX11_years_14 : decode cX11_years 14 = .ok (.lconst 1, 1) := by decide +kernel
theorem dX11_years_15 : decode cX11_years 15 = .ok (.ldc2_w 456, 3) := by decide +kernel
theorem dX11_years_18 : decode cX11_years 18 = .ok (.invokestatic 233, 3) := by decide +kernel
theorem dX11_years_21 : decode cX11_years 21 = .ok (.ifCond .eq 19, 3) := by decide +kernel
theorem dX11_years_24 : decode cX11_years 24 = .ok (.aload_n 0, 1) := by decide +kernel
theorem dX11_years_25 : decode cX11_years 25 = .ok (.getfield 61, 3) := by decide +kernel
theorem dX11_years_28 : decode cX11_years 28 = .ok (.sipush 130, 3) := by decide +kernel
theorem dX11_years_31 : decode cX11_years 31 = .ok (.iaload, 1) := by decide +kernel
theorem dX11_years_32 : decode cX11_years 32 = .ok (.iload_n 1, 1) := by decide +kernel
theorem dX11_years_33 : decode cX11_years 33 = .ok (.iadd, 1) := by decide +kernel
theorem dX11_years_34 : decode cX11_years 34 = .ok (.sipush 9999, 3) := by decide +kernel
theorem dX11_years_37 : decode cX11_years 37 = .ok (.if_icmp .le 5, 3) := by decide +kernel
theorem dX11_years_40 : decode cX11_years 40 = .ok (.iconst (-1), 1) := by decide +kernel
theorem dX11_years_41 : decode cX11_years 41 = .ok (.ireturn, 1) := by decide +kernel
theorem dX11_years_42 : decode cX11_years 42 = .ok (.aload_n 0, 1) := by decide +kernel
theorem dX11_years_43 : decode cX11_years 43 = .ok (.lload_n 2, 1) := by decide +kernel
theorem dX11_years_44 : decode cX11_years 44 = .ok (.putfield 448, 3) := by decide +kernel
theorem dX11_years_47 : decode cX11_years 47 = .ok (.iconst 0, 1) := by decide +kernel
theorem dX11_years_48 : decode cX11_years 48 = .ok (.istore 4, 2) := by decide +kernel
theorem dX11_years_50 : decode cX11_years 50 = .ok (.iload 4, 2) := by decide +kernel
theorem dX11_years_52 : decode cX11_years 52 = .ok (.iload_n 1, 1) := by decide +kernel
theorem dX11_years_53 : decode cX11_years 53 = .ok (.if_icmp .ge 105, 3) := by decide +kernel
theorem dX11_years_56 : decode cX11_years 56 = .ok (.aload_n 0, 1) := by decide +kernel
theorem dX11_years_57 : decode cX11_years 57 = .ok (.invokevirtual 429, 3) := by decide +kernel
theorem dX11_years_60 : decode cX11_years 60 = .ok (.aload_n 0, 1) := by decide +kernel
theorem dX11_years_61 : decode cX11_years 61 = .ok (.bipush 10, 2) := by decide +kernel
theorem dX11_years_63 : decode cX11_years 63 = .ok (.invokevirtual 458, 3) := by decide +kernel
theorem dX11_years_66 : decode cX11_years 66 = .ok (.aload_n 0, 1) := by decide +kernel
theorem dX11_years_67 : decode cX11_years 67 = .ok (.getfield 74, 3) := by decide +kernel
theorem dX11_years_70 : decode cX11_years 70 = .ok (.if_icmp .ge 21, 3) := by decide +kernel
theorem dX11_years_73 : decode cX11_years 73 = .ok (.aload_n 0, 1) := by decide +kernel
theorem dX11_years_74 : decode cX11_years 74 = .ok (.getfield 61, 3) := by decide +kernel
theorem dX11_years_77 : decode cX11_years 77 = .ok (.sipush 128, 3) := by decide +kernel
theorem dX11_years_80 : decode cX11_years 80 = .ok (.dup2, 1) := by decide +kernel
theorem dX11_years_81 : decode cX11_years 81 = .ok (.iaload, 1) := by decide +kernel
theorem dX11_years_82 : decode cX11_years 82 = .ok (.iconst 1, 1) := by decide +kernel
theorem dX11_years_83 : decode cX11_years 83 = .ok (.aload_n 0, 1) := by decide +kernel
theorem dX11_years_84 : decode cX11_years 84 = .ok (.iconst 4, 1) := by decide +kernel
theorem dX11_years_85 : decode cX11_years 85 = .ok (.invokevirtual 458, 3) := by decide +kernel
theorem dX11_years_88 : decode cX11_years 88 = .ok (.ishl, 1) := by decide +kernel
theorem dX11_years_89 : decode cX11_years 89 = .ok (.ixor, 1) := by decide +kernel
theorem dX11_years_90 : decode cX11_years 90 = .ok (.iastore, 1) := by decide +kernel
theorem dX11_years_91 : decode cX11_years 91 = .ok (.aload_n 0, 1) := by decide +kernel
theorem dX11_years_92 : decode cX11_years 92 = .ok (.bipush 10, 2) := by decide +kernel
theorem dX11_years_94 : decode cX11_years 94 = .ok (.invokevirtual 458, 3) := by decide +kernel
theorem dX11_years_97 : decode cX11_years 97 = .ok (.iconst 2, 1) := by decide +kernel
theorem dX11_years_98 : decode cX11_years 98 = .ok (.if_icmp .ge 48, 3) := by decide +kernel
theorem dX11_years_101 : decode cX11_years 101 = .ok (.aload_n 0, 1) := by decide +kernel
theorem dX11_years_102 : decode cX11_years 102 = .ok (.aload_n 0, 1) := by decide +kernel
theorem dX11_years_103 : decode cX11_years 103 = .ok (.getfield 310, 3) := by decide +kernel
theorem dX11_years_106 : decode cX11_years 106 = .ok (.invokevirtual 458, 3) := by decide +kernel
theorem dX11_years_109 : decode cX11_years 109 = .ok (.istore 5, 2) := by decide +kernel
theorem dX11_years_111 : decode cX11_years 111 = .ok (.aload_n 0, 1) := by decide +kernel
theorem dX11_years_112 : decode cX11_years 112 = .ok (.getfield 61, 3) := by decide +kernel
theorem dX11_years_115 : decode cX11_years 115 = .ok (.bipush 24, 2) := by decide +kernel
theorem dX11_years_117 : decode cX11_years 117 = .ok (.iload 5, 2) := by decide +kernel
theorem dX11_years_119 : decode cX11_years 119 = .ok (.iadd, 1) := by decide +kernel
theorem dX11_years_120 : decode cX11_years 120 = .ok (.sipush 999, 3) := by decide +kernel
theorem dX11_years_123 : decode cX11_years 123 = .ok (.aload_n 0, 1) := by decide +kernel
theorem dX11_years_124 : decode cX11_years 124 = .ok (.getfield 61, 3) := by decide +kernel
theorem dX11_years_127 : decode cX11_years 127 = .ok (.bipush 24, 2) := by decide +kernel
theorem dX11_years_129 : decode cX11_years 129 = .ok (.iload 5, 2) := by decide +kernel
theorem dX11_years_131 : decode cX11_years 131 = .ok (.iadd, 1) := by decide +kernel
theorem dX11_years_132 : decode cX11_years 132 = .ok (.iaload, 1) := by decide +kernel
theorem dX11_years_133 : decode cX11_years 133 = .ok (.aload_n 0, 1) := by decide +kernel
theorem dX11_years_134 : decode cX11_years 134 = .ok (.bipush 10, 2) := by decide +kernel
theorem dX11_years_136 : decode cX11_years 136 = .ok (.invokevirtual 458, 3) := by decide +kernel
theorem dX11_years_139 : decode cX11_years 139 = .ok (.iadd, 1) := by decide +kernel
theorem dX11_years_140 : decode cX11_years 140 = .ok (.iconst 1, 1) := by decide +kernel
theorem dX11_years_141 : decode cX11_years 141 = .ok (.iadd, 1) := by decide +kernel
theorem dX11_years_142 : decode cX11_years 142 = .ok (.invokestatic 347, 3) := by decide +kernel
theorem dX11_years_145 : decode cX11_years 145 = .ok (.iastore, 1) := by decide +kernel
theorem dX11_years_146 : decode cX11_years 146 = .ok (.aload_n 0, 1) := by decide +kernel
theorem dX11_years_147 : decode cX11_years 147 = .ok (.invokevirtual 439, 3) := by decide +kernel
theorem dX11_years_150 : decode cX11_years 150 = .ok (.istore 5, 2) := by decide +kernel
theorem dX11_years_152 : decode cX11_years 152 = .ok (.iinc 4 1, 3) := by decide +kernel
theorem dX11_years_155 : decode cX11_years 155 = .ok (.goto (-105), 3) := by decide +kernel
theorem dX11_years_158 : decode cX11_years 158 = .ok (.aload_n 0, 1) := by decide +kernel
theorem dX11_years_159 : decode cX11_years 159 = .ok (.getfield 61, 3) := by decide +kernel
theorem dX11_years_162 : decode cX11_years 162 = .ok (.sipush 130, 3) := by decide +kernel
theorem dX11_years_165 : decode cX11_years 165 = .ok (.iaload, 1) := by decide +kernel
theorem dX11_years_166 : decode cX11_years 166 = .ok (.ireturn, 1) := by decide +kernel
def f_Model_years_L50 (x1 : Int32) (x2 : Int64) (a : Mem × Int32) : Option ((Mem × Int32) ⊕ (Int32 × Mem)) :=
  @Prod.casesOn (Mem) (Int32) (fun _ => Option ((Mem × Int32) ⊕ (Int32 × Mem))) a fun τ z4 =>
  if x1 ≤ z4 then
    some (.inr ((mI τ 578 (130 : Int32).toNatClampNeg), τ))
  else
    (f_Model_remember τ).bind fun q6 =>
    (f_Model_draw q6 (10 : Int32)).bind fun q7 =>
    if (mI q7.2 565 36) ≤ q7.1 then
      (f_Model_draw q7.2 (10 : Int32)).bind fun q9 =>
      if (2 : Int32) ≤ q9.1 then
        (f_Model_goNow q9.2).bind fun q11 =>
        some (.inl (q11.2, (z4 + (1 : Int32))))
      else
        (f_Model_draw q9.2 (mI q9.2 565 27)).bind fun q12 =>
        if inb ((24 : Int32) + q12.1) 312 then
          (f_Model_draw q12.2 (10 : Int32)).bind fun q14 =>
          (f_Model_goNow (sI q14.2 578 ((24 : Int32) + q12.1).toNatClampNeg (imin (999 : Int32) (((mI q12.2 578 ((24 : Int32) + q12.1).toNatClampNeg) + q14.1) + (1 : Int32))))).bind fun q15 =>
          some (.inl (q15.2, (z4 + (1 : Int32))))
        else none
    else
      (f_Model_draw q7.2 (4 : Int32)).bind fun q16 =>
      (f_Model_draw (sI q16.2 578 (128 : Int32).toNatClampNeg ((mI q7.2 578 (128 : Int32).toNatClampNeg) ^^^ ((1 : Int32) <<< (q16.1 &&& 31)))) (10 : Int32)).bind fun q17 =>
      if (2 : Int32) ≤ q17.1 then
        (f_Model_goNow q17.2).bind fun q19 =>
        some (.inl (q19.2, (z4 + (1 : Int32))))
      else
        (f_Model_draw q17.2 (mI q17.2 565 27)).bind fun q20 =>
        if inb ((24 : Int32) + q20.1) 312 then
          (f_Model_draw q20.2 (10 : Int32)).bind fun q22 =>
          (f_Model_goNow (sI q22.2 578 ((24 : Int32) + q20.1).toNatClampNeg (imin (999 : Int32) (((mI q20.2 578 ((24 : Int32) + q20.1).toNatClampNeg) + q22.1) + (1 : Int32))))).bind fun q23 =>
          some (.inl (q23.2, (z4 + (1 : Int32))))
        else none
def f_Model_years (σ : Mem) (x1 : Int32) (x2 : Int64) : Option (Int32 × Mem) :=
  if (mI (sI σ 565 0 (0 : Int32)) 565 27) = (0 : Int32) then
    some ((-1 : Int32), (sI σ 565 0 (0 : Int32)))
  else
    (f_Model_isIn (sI σ 565 0 (0 : Int32)) ((x1).toInt64) (1 : Int64) (30 : Int64)).bind fun q2 =>
    if q2 = (0 : Int32) then
      some ((-1 : Int32), (sI σ 565 0 (0 : Int32)))
    else
      if ((mI (sI σ 565 0 (0 : Int32)) 578 (130 : Int32).toNatClampNeg) + x1) ≤ (9999 : Int32) then
        loopF (f_Model_years_L50 x1 x2) FU ((sL (sI σ 565 0 (0 : Int32)) 565 45 x2), (0 : Int32))
      else
        some ((-1 : Int32), (sI σ 565 0 (0 : Int32)))
set_option maxHeartbeats 4000000 in
set_option maxRecDepth 20000 in
theorem gs_Model_years_L50 (X : Cx θ p s m args c cX11_years 6 RX11) (hr : meth.sig.returnType = some .int) (hlk : meth.locks = false)  {x1 : Int32} {x2 : Int64} {r : Int32 × Mem}  (τ : Mem) (z4 : Int32) (x : (Mem × Int32) ⊕ (Int32 × Mem)) (h : f_Model_years_L50 x1 x2 (τ, z4) = some x) (hk : Sum.elim (fun a => @Prod.casesOn (Mem) (Int32) (fun _ => Prop) a fun τ z4 => GB θ p l e 67 s m args below meth c 6 (some (.int r.1), r.2) 50 [(0, .ref (be θ + 565)), (1, .int x1), (2, .long x2), (4, .int z4)] [] τ) (fun b => b = r) x) : GB θ p l e 67 s m args below meth c 6 (some (.int r.1), r.2) 50 [(0, .ref (be θ + 565)), (1, .int x1), (2, .long x2), (4, .int z4)] [] τ := by
  unfold f_Model_years_L50 at h
  dsimp only at h
  refine g_iload X dX11_years_50 3 rfl ?_
  refine g_iload_n X dX11_years_52 rfl 1 rfl ?_
  refine g_icmp_ge (tgt := 158) X dX11_years_53 (by decide) (fun c5 => ?_) (fun c5 => ?_)
  · replace h := (if_pos c5).symm.trans h
    refine g_aload_n X dX11_years_158 rfl 0 rfl ?_
    refine g_get X fl_RX11_61 dX11_years_159 kd_565 (v := .ref (be θ + 578)) rfl ?_
    refine g_sipush X dX11_years_162 (v := (130 : Int32)) sp_130 ?_
    refine g_iald X kd_578 ln_578 (inb_in (show inb (130 : Int32) 312 = true by decide)) dX11_years_165 ?_
    have hk := inr_hk h hk
    have hk : ((mI τ 578 (130 : Int32).toNatClampNeg), τ) = r := hk
    subst hk
    exact g_iret X hr hlk dX11_years_166 rfl
  · replace h := (if_neg c5).symm.trans h
    refine g_aload_n X dX11_years_56 rfl 0 rfl ?_
    obtain ⟨q6, hq6, h⟩ := Option.bind_eq_some_iff.mp h
    refine g_cV X (c_Model_remember  hq6) lk_RX11_429 my_X11_remember (a := 565) (ci := 11) kd_565 (by decide) rfl (As := []) (rest := []) rfl rfl (Nat.le_of_ble_eq_true rfl) ⟨(Nat.le_of_ble_eq_true rfl), (Nat.le_of_ble_eq_true rfl)⟩ ⟨(Nat.le_of_ble_eq_true rfl), (Nat.le_of_ble_eq_true rfl)⟩ dX11_years_57 (st' := []) (σ' := q6) rfl rfl ?_
    refine g_aload_n X dX11_years_60 rfl 0 rfl ?_
    refine g_bipush X dX11_years_61 (v := (10 : Int32)) bp_10 ?_
    obtain ⟨q7, hq7, h⟩ := Option.bind_eq_some_iff.mp h
    refine g_cV X (c_Model_draw  hq7) lk_RX11_458 my_X11_draw (a := 565) (ci := 11) kd_565 (by decide) rfl (As := [.int (10 : Int32)]) (rest := []) rfl rfl (Nat.le_of_ble_eq_true rfl) ⟨(Nat.le_of_ble_eq_true rfl), (Nat.le_of_ble_eq_true rfl)⟩ ⟨(Nat.le_of_ble_eq_true rfl), (Nat.le_of_ble_eq_true rfl)⟩ dX11_years_63 (st' := [.int q7.1]) (σ' := q7.2) rfl rfl ?_
    refine g_aload_n X dX11_years_66 rfl 0 rfl ?_
    refine g_get X fl_RX11_74 dX11_years_67 kd_565 (v := .int (mI q7.2 565 36)) rfl ?_
    refine g_icmp_ge (tgt := 91) X dX11_years_70 (by decide) (fun c8 => ?_) (fun c8 => ?_)
    · replace h := (if_pos c8).symm.trans h
      refine g_aload_n X dX11_years_91 rfl 0 rfl ?_
      refine g_bipush X dX11_years_92 (v := (10 : Int32)) bp_10 ?_
      obtain ⟨q9, hq9, h⟩ := Option.bind_eq_some_iff.mp h
      refine g_cV X (c_Model_draw  hq9) lk_RX11_458 my_X11_draw (a := 565) (ci := 11) kd_565 (by decide) rfl (As := [.int (10 : Int32)]) (rest := []) rfl rfl (Nat.le_of_ble_eq_true rfl) ⟨(Nat.le_of_ble_eq_true rfl), (Nat.le_of_ble_eq_true rfl)⟩ ⟨(Nat.le_of_ble_eq_true rfl), (Nat.le_of_ble_eq_true rfl)⟩ dX11_years_94 (st' := [.int q9.1]) (σ' := q9.2) rfl rfl ?_
      refine g_iconst X dX11_years_97 (v := (2 : Int32)) ic_2 ?_
      refine g_icmp_ge (tgt := 146) X dX11_years_98 (by decide) (fun c10 => ?_) (fun c10 => ?_)
      · replace h := (if_pos c10).symm.trans h
        refine g_aload_n X dX11_years_146 rfl 0 rfl ?_
        obtain ⟨q11, hq11, h⟩ := Option.bind_eq_some_iff.mp h
        refine g_cV X (c_Model_goNow  hq11) lk_RX11_439 my_X11_goNow (a := 565) (ci := 11) kd_565 (by decide) rfl (As := []) (rest := []) rfl rfl (Nat.le_of_ble_eq_true rfl) ⟨(Nat.le_of_ble_eq_true rfl), (Nat.le_of_ble_eq_true rfl)⟩ ⟨(Nat.le_of_ble_eq_true rfl), (Nat.le_of_ble_eq_true rfl)⟩ dX11_years_147 (st' := [.int q11.1]) (σ' := q11.2) rfl rfl ?_
        refine g_istore X dX11_years_150 (by decide) (lv' := [(5, .int q11.1), (0, .ref (be θ + 565)), (1, .int x1), (2, .long x2), (4, .int z4)]) rfl ?_
        refine g_iinc X dX11_years_152 (kq := 4) rfl (congrArg (HAdd.hAdd _) ic_1) (by decide) (lv' := [(4, .int (z4 + (1 : Int32))), (5, .int q11.1), (0, .ref (be θ + 565)), (1, .int x1), (2, .long x2)]) rfl ?_
        refine g_goto (tgt := 50) X dX11_years_155 (by decide) ?_
        have hk := inl_hk h hk
        exact g_sub (lv' := [(0, .ref (be θ + 565)), (1, .int x1), (2, .long x2), (4, .int (z4 + (1 : Int32)))]) [2, 3, 4, 0] rfl hk
      · replace h := (if_neg c10).symm.trans h
        refine g_aload_n X dX11_years_101 rfl 0 rfl ?_
        refine g_aload_n X dX11_years_102 rfl 0 rfl ?_
        refine g_get X fl_RX11_310 dX11_years_103 kd_565 (v := .int (mI q9.2 565 27)) rfl ?_
        obtain ⟨q12, hq12, h⟩ := Option.bind_eq_some_iff.mp h
        refine g_cV X (c_Model_draw  hq12) lk_RX11_458 my_X11_draw (a := 565) (ci := 11) kd_565 (by decide) rfl (As := [.int (mI q9.2 565 27)]) (rest := []) rfl rfl (Nat.le_of_ble_eq_true rfl) ⟨(Nat.le_of_ble_eq_true rfl), (Nat.le_of_ble_eq_true rfl)⟩ ⟨(Nat.le_of_ble_eq_true rfl), (Nat.le_of_ble_eq_true rfl)⟩ dX11_years_106 (st' := [.int q12.1]) (σ' := q12.2) rfl rfl ?_
        refine g_istore X dX11_years_109 (by decide) (lv' := [(5, .int q12.1), (0, .ref (be θ + 565)), (1, .int x1), (2, .long x2), (4, .int z4)]) rfl ?_
        refine g_aload_n X dX11_years_111 rfl 1 rfl ?_
        refine g_get X fl_RX11_61 dX11_years_112 kd_565 (v := .ref (be θ + 578)) rfl ?_
        refine g_bipush X dX11_years_115 (v := (24 : Int32)) bp_24 ?_
        refine g_iload X dX11_years_117 0 rfl ?_
        refine g_iadd X dX11_years_119 ?_
        refine g_sipush X dX11_years_120 (v := (999 : Int32)) sp_999 ?_
        refine g_aload_n X dX11_years_123 rfl 1 rfl ?_
        refine g_get X fl_RX11_61 dX11_years_124 kd_565 (v := .ref (be θ + 578)) rfl ?_
        refine g_bipush X dX11_years_127 (v := (24 : Int32)) bp_24 ?_
        refine g_iload X dX11_years_129 0 rfl ?_
        refine g_iadd X dX11_years_131 ?_
        obtain ⟨g13, h⟩ := ite_some h
        refine g_iald X kd_578 ln_578 (inb_in g13) dX11_years_132 ?_
        refine g_aload_n X dX11_years_133 rfl 1 rfl ?_
        refine g_bipush X dX11_years_134 (v := (10 : Int32)) bp_10 ?_
        obtain ⟨q14, hq14, h⟩ := Option.bind_eq_some_iff.mp h
        refine g_cV X (c_Model_draw  hq14) lk_RX11_458 my_X11_draw (a := 565) (ci := 11) kd_565 (by decide) rfl (As := [.int (10 : Int32)]) (rest := [.int (mI q12.2 578 ((24 : Int32) + q12.1).toNatClampNeg), .int (999 : Int32), .int ((24 : Int32) + q12.1), .ref (be θ + 578)]) rfl rfl (Nat.le_of_ble_eq_true rfl) ⟨(Nat.le_of_ble_eq_true rfl), (Nat.le_of_ble_eq_true rfl)⟩ ⟨(Nat.le_of_ble_eq_true rfl), (Nat.le_of_ble_eq_true rfl)⟩ dX11_years_136 (st' := [.int q14.1, .int (mI q12.2 578 ((24 : Int32) + q12.1).toNatClampNeg), .int (999 : Int32), .int ((24 : Int32) + q12.1), .ref (be θ + 578)]) (σ' := q14.2) rfl rfl ?_
        refine g_iadd X dX11_years_139 ?_
        refine g_iconst X dX11_years_140 (v := (1 : Int32)) ic_1 ?_
        refine g_iadd X dX11_years_141 ?_
        refine g_min X lm_RX11_347 ⟨(Nat.le_of_ble_eq_true rfl), (Nat.le_of_ble_eq_true rfl)⟩ ⟨(Nat.le_of_ble_eq_true rfl), (Nat.le_of_ble_eq_true rfl)⟩ dX11_years_142 ?_
        refine g_iast X kd_578 ln_578 (inb_in g13) dX11_years_145 ?_
        refine g_aload_n X dX11_years_146 rfl 1 rfl ?_
        obtain ⟨q15, hq15, h⟩ := Option.bind_eq_some_iff.mp h
        refine g_cV X (c_Model_goNow  hq15) lk_RX11_439 my_X11_goNow (a := 565) (ci := 11) kd_565 (by decide) rfl (As := []) (rest := []) rfl rfl (Nat.le_of_ble_eq_true rfl) ⟨(Nat.le_of_ble_eq_true rfl), (Nat.le_of_ble_eq_true rfl)⟩ ⟨(Nat.le_of_ble_eq_true rfl), (Nat.le_of_ble_eq_true rfl)⟩ dX11_years_147 (st' := [.int q15.1]) (σ' := q15.2) rfl rfl ?_
        refine g_istore X dX11_years_150 (by decide) (lv' := [(5, .int q15.1), (0, .ref (be θ + 565)), (1, .int x1), (2, .long x2), (4, .int z4)]) rfl ?_
        refine g_iinc X dX11_years_152 (kq := 4) rfl (congrArg (HAdd.hAdd _) ic_1) (by decide) (lv' := [(4, .int (z4 + (1 : Int32))), (5, .int q15.1), (0, .ref (be θ + 565)), (1, .int x1), (2, .long x2)]) rfl ?_
        refine g_goto (tgt := 50) X dX11_years_155 (by decide) ?_
        have hk := inl_hk h hk
        exact g_sub (lv' := [(0, .ref (be θ + 565)), (1, .int x1), (2, .long x2), (4, .int (z4 + (1 : Int32)))]) [2, 3, 4, 0] rfl hk
    · replace h := (if_neg c8).symm.trans h
      refine g_aload_n X dX11_years_73 rfl 0 rfl ?_
      refine g_get X fl_RX11_61 dX11_years_74 kd_565 (v := .ref (be θ + 578)) rfl ?_
      refine g_sipush X dX11_years_77 (v := (128 : Int32)) sp_128 ?_
      refine g_dup2 X dX11_years_80 rfl rfl ?_
      refine g_iald X kd_578 ln_578 (inb_in (show inb (128 : Int32) 312 = true by decide)) dX11_years_81 ?_
      refine g_iconst X dX11_years_82 (v := (1 : Int32)) ic_1 ?_
      refine g_aload_n X dX11_years_83 rfl 0 rfl ?_
      refine g_iconst X dX11_years_84 (v := (4 : Int32)) ic_4 ?_
      obtain ⟨q16, hq16, h⟩ := Option.bind_eq_some_iff.mp h
      refine g_cV X (c_Model_draw  hq16) lk_RX11_458 my_X11_draw (a := 565) (ci := 11) kd_565 (by decide) rfl (As := [.int (4 : Int32)]) (rest := [.int (1 : Int32), .int (mI q7.2 578 (128 : Int32).toNatClampNeg), .int (128 : Int32), .ref (be θ + 578)]) rfl rfl (Nat.le_of_ble_eq_true rfl) ⟨(Nat.le_of_ble_eq_true rfl), (Nat.le_of_ble_eq_true rfl)⟩ ⟨(Nat.le_of_ble_eq_true rfl), (Nat.le_of_ble_eq_true rfl)⟩ dX11_years_85 (st' := [.int q16.1, .int (1 : Int32), .int (mI q7.2 578 (128 : Int32).toNatClampNeg), .int (128 : Int32), .ref (be θ + 578)]) (σ' := q16.2) rfl rfl ?_
      refine g_ishl X dX11_years_88 ?_
      refine g_ixor X dX11_years_89 ?_
      refine g_iast X kd_578 ln_578 (inb_in (show inb (128 : Int32) 312 = true by decide)) dX11_years_90 ?_
      refine g_aload_n X dX11_years_91 rfl 0 rfl ?_
      refine g_bipush X dX11_years_92 (v := (10 : Int32)) bp_10 ?_
      obtain ⟨q17, hq17, h⟩ := Option.bind_eq_some_iff.mp h
      refine g_cV X (c_Model_draw  hq17) lk_RX11_458 my_X11_draw (a := 565) (ci := 11) kd_565 (by decide) rfl (As := [.int (10 : Int32)]) (rest := []) rfl rfl (Nat.le_of_ble_eq_true rfl) ⟨(Nat.le_of_ble_eq_true rfl), (Nat.le_of_ble_eq_true rfl)⟩ ⟨(Nat.le_of_ble_eq_true rfl), (Nat.le_of_ble_eq_true rfl)⟩ dX11_years_94 (st' := [.int q17.1]) (σ' := q17.2) rfl rfl ?_
      refine g_iconst X dX11_years_97 (v := (2 : Int32)) ic_2 ?_
      refine g_icmp_ge (tgt := 146) X dX11_years_98 (by decide) (fun c18 => ?_) (fun c18 => ?_)
      · replace h := (if_pos c18).symm.trans h
        refine g_aload_n X dX11_years_146 rfl 0 rfl ?_
        obtain ⟨q19, hq19, h⟩ := Option.bind_eq_some_iff.mp h
        refine g_cV X (c_Model_goNow  hq19) lk_RX11_439 my_X11_goNow (a := 565) (ci := 11) kd_565 (by decide) rfl (As := []) (rest := []) rfl rfl (Nat.le_of_ble_eq_true rfl) ⟨(Nat.le_of_ble_eq_true rfl), (Nat.le_of_ble_eq_true rfl)⟩ ⟨(Nat.le_of_ble_eq_true rfl), (Nat.le_of_ble_eq_true rfl)⟩ dX11_years_147 (st' := [.int q19.1]) (σ' := q19.2) rfl rfl ?_
        refine g_istore X dX11_years_150 (by decide) (lv' := [(5, .int q19.1), (0, .ref (be θ + 565)), (1, .int x1), (2, .long x2), (4, .int z4)]) rfl ?_
        refine g_iinc X dX11_years_152 (kq := 4) rfl (congrArg (HAdd.hAdd _) ic_1) (by decide) (lv' := [(4, .int (z4 + (1 : Int32))), (5, .int q19.1), (0, .ref (be θ + 565)), (1, .int x1), (2, .long x2)]) rfl ?_
        refine g_goto (tgt := 50) X dX11_years_155 (by decide) ?_
        have hk := inl_hk h hk
        exact g_sub (lv' := [(0, .ref (be θ + 565)), (1, .int x1), (2, .long x2), (4, .int (z4 + (1 : Int32)))]) [2, 3, 4, 0] rfl hk
      · replace h := (if_neg c18).symm.trans h
        refine g_aload_n X dX11_years_101 rfl 0 rfl ?_
        refine g_aload_n X dX11_years_102 rfl 0 rfl ?_
        refine g_get X fl_RX11_310 dX11_years_103 kd_565 (v := .int (mI q17.2 565 27)) rfl ?_
        obtain ⟨q20, hq20, h⟩ := Option.bind_eq_some_iff.mp h
        refine g_cV X (c_Model_draw  hq20) lk_RX11_458 my_X11_draw (a := 565) (ci := 11) kd_565 (by decide) rfl (As := [.int (mI q17.2 565 27)]) (rest := []) rfl rfl (Nat.le_of_ble_eq_true rfl) ⟨(Nat.le_of_ble_eq_true rfl), (Nat.le_of_ble_eq_true rfl)⟩ ⟨(Nat.le_of_ble_eq_true rfl), (Nat.le_of_ble_eq_true rfl)⟩ dX11_years_106 (st' := [.int q20.1]) (σ' := q20.2) rfl rfl ?_
        refine g_istore X dX11_years_109 (by decide) (lv' := [(5, .int q20.1), (0, .ref (be θ + 565)), (1, .int x1), (2, .long x2), (4, .int z4)]) rfl ?_
        refine g_aload_n X dX11_years_111 rfl 1 rfl ?_
        refine g_get X fl_RX11_61 dX11_years_112 kd_565 (v := .ref (be θ + 578)) rfl ?_
        refine g_bipush X dX11_years_115 (v := (24 : Int32)) bp_24 ?_
        refine g_iload X dX11_years_117 0 rfl ?_
        refine g_iadd X dX11_years_119 ?_
        refine g_sipush X dX11_years_120 (v := (999 : Int32)) sp_999 ?_
        refine g_aload_n X dX11_years_123 rfl 1 rfl ?_
        refine g_get X fl_RX11_61 dX11_years_124 kd_565 (v := .ref (be θ + 578)) rfl ?_
        refine g_bipush X dX11_years_127 (v := (24 : Int32)) bp_24 ?_
        refine g_iload X dX11_years_129 0 rfl ?_
        refine g_iadd X dX11_years_131 ?_
        obtain ⟨g21, h⟩ := ite_some h
        refine g_iald X kd_578 ln_578 (inb_in g21) dX11_years_132 ?_
        refine g_aload_n X dX11_years_133 rfl 1 rfl ?_
        refine g_bipush X dX11_years_134 (v := (10 : Int32)) bp_10 ?_
        obtain ⟨q22, hq22, h⟩ := Option.bind_eq_some_iff.mp h
        refine g_cV X (c_Model_draw  hq22) lk_RX11_458 my_X11_draw (a := 565) (ci := 11) kd_565 (by decide) rfl (As := [.int (10 : Int32)]) (rest := [.int (mI q20.2 578 ((24 : Int32) + q20.1).toNatClampNeg), .int (999 : Int32), .int ((24 : Int32) + q20.1), .ref (be θ + 578)]) rfl rfl (Nat.le_of_ble_eq_true rfl) ⟨(Nat.le_of_ble_eq_true rfl), (Nat.le_of_ble_eq_true rfl)⟩ ⟨(Nat.le_of_ble_eq_true rfl), (Nat.le_of_ble_eq_true rfl)⟩ dX11_years_136 (st' := [.int q22.1, .int (mI q20.2 578 ((24 : Int32) + q20.1).toNatClampNeg), .int (999 : Int32), .int ((24 : Int32) + q20.1), .ref (be θ + 578)]) (σ' := q22.2) rfl rfl ?_
        refine g_iadd X dX11_years_139 ?_
        refine g_iconst X dX11_years_140 (v := (1 : Int32)) ic_1 ?_
        refine g_iadd X dX11_years_141 ?_
        refine g_min X lm_RX11_347 ⟨(Nat.le_of_ble_eq_true rfl), (Nat.le_of_ble_eq_true rfl)⟩ ⟨(Nat.le_of_ble_eq_true rfl), (Nat.le_of_ble_eq_true rfl)⟩ dX11_years_142 ?_
        refine g_iast X kd_578 ln_578 (inb_in g21) dX11_years_145 ?_
        refine g_aload_n X dX11_years_146 rfl 1 rfl ?_
        obtain ⟨q23, hq23, h⟩ := Option.bind_eq_some_iff.mp h
        refine g_cV X (c_Model_goNow  hq23) lk_RX11_439 my_X11_goNow (a := 565) (ci := 11) kd_565 (by decide) rfl (As := []) (rest := []) rfl rfl (Nat.le_of_ble_eq_true rfl) ⟨(Nat.le_of_ble_eq_true rfl), (Nat.le_of_ble_eq_true rfl)⟩ ⟨(Nat.le_of_ble_eq_true rfl), (Nat.le_of_ble_eq_true rfl)⟩ dX11_years_147 (st' := [.int q23.1]) (σ' := q23.2) rfl rfl ?_
        refine g_istore X dX11_years_150 (by decide) (lv' := [(5, .int q23.1), (0, .ref (be θ + 565)), (1, .int x1), (2, .long x2), (4, .int z4)]) rfl ?_
        refine g_iinc X dX11_years_152 (kq := 4) rfl (congrArg (HAdd.hAdd _) ic_1) (by decide) (lv' := [(4, .int (z4 + (1 : Int32))), (5, .int q23.1), (0, .ref (be θ + 565)), (1, .int x1), (2, .long x2)]) rfl ?_
        refine g_goto (tgt := 50) X dX11_years_155 (by decide) ?_
        have hk := inl_hk h hk
        exact g_sub (lv' := [(0, .ref (be θ + 565)), (1, .int x1), (2, .long x2), (4, .int (z4 + (1 : Int32)))]) [2, 3, 4, 0] rfl hk
set_option maxHeartbeats 4000000 in
set_option maxRecDepth 20000 in
theorem gl_Model_years_L50 (X : Cx θ p s m args c cX11_years 6 RX11) (hr : meth.sig.returnType = some .int) (hlk : meth.locks = false)  {x1 : Int32} {x2 : Int64} {r : Int32 × Mem}  (n : Nat) (a : Mem × Int32) (b : Int32 × Mem) (h : loopF (f_Model_years_L50 x1 x2) n a = some b) (hk : (fun b => b = r) b) : (fun a => @Prod.casesOn (Mem) (Int32) (fun _ => Prop) a fun τ z4 => GB θ p l e 67 s m args below meth c 6 (some (.int r.1), r.2) 50 [(0, .ref (be θ + 565)), (1, .int x1), (2, .long x2), (4, .int z4)] [] τ) a :=
  loopF_by (P := (fun a => @Prod.casesOn (Mem) (Int32) (fun _ => Prop) a fun τ z4 => GB θ p l e 67 s m args below meth c 6 (some (.int r.1), r.2) 50 [(0, .ref (be θ + 565)), (1, .int x1), (2, .long x2), (4, .int z4)] [] τ)) (K := (fun b => b = r)) (fun a x h hk => by obtain ⟨τ, z4⟩ := a; exact gs_Model_years_L50 X hr hlk   τ z4 x h hk) n a b h hk
set_option maxHeartbeats 4000000 in
set_option maxRecDepth 20000 in
theorem g_Model_years (X : Cx θ p s m args c cX11_years 6 RX11) (hr : meth.sig.returnType = some .int) (hlk : meth.locks = false)  {σ : Mem} {x1 : Int32} {x2 : Int64} {r : Int32 × Mem}  (h : f_Model_years σ x1 x2 = some r) : GB θ p l e 67 s m args below meth c 6 (some (.int r.1), r.2) 0 [(0, .ref (be θ + 565)), (1, .int x1), (2, .long x2)] [] σ := by
  unfold f_Model_years at h
  refine g_aload_n X dX11_years_0 rfl 0 rfl ?_
  refine g_iconst X dX11_years_1 (v := (0 : Int32)) ic_0 ?_
  refine g_putI X fl_RX11_112 dX11_years_2 kd_565 rfl rfl rfl ?_
  refine g_aload_n X dX11_years_5 rfl 0 rfl ?_
  refine g_get X fl_RX11_310 dX11_years_6 kd_565 (v := .int (mI (sI σ 565 0 (0 : Int32)) 565 27)) rfl ?_
  refine g_if_eq (tgt := 40) X dX11_years_9 (by decide) (fun c1 => ?_) (fun c1 => ?_)
  · replace h := (if_pos c1).symm.trans h
    refine g_iconst X dX11_years_40 (v := (-1 : Int32)) ic_m1 ?_
    exact g_iret X hr hlk dX11_years_41 (by cases h; rfl)
  · replace h := (if_neg c1).symm.trans h
    refine g_iload_n X dX11_years_12 rfl 1 rfl ?_
    refine g_i2l X dX11_years_13 (v := ((x1).toInt64)) rfl ?_
    refine g_lconst X dX11_years_14 (v := (1 : Int64)) rfl ?_
    refine g_ldc2 X cst_RX11_456 dX11_years_15 ?_
    obtain ⟨q2, hq2, h⟩ := Option.bind_eq_some_iff.mp h
    refine g_cS X (c_Model_isIn  hq2) lk_RX11_233 my_X11_isIn (As := [.long ((x1).toInt64), .long (1 : Int64), .long (30 : Int64)]) (rest := []) rfl rfl (Nat.le_of_ble_eq_true rfl) ⟨(Nat.le_of_ble_eq_true rfl), (Nat.le_of_ble_eq_true rfl)⟩ ⟨(Nat.le_of_ble_eq_true rfl), (Nat.le_of_ble_eq_true rfl)⟩ dX11_years_18 (st' := [.int q2]) (σ' := (sI σ 565 0 (0 : Int32))) rfl rfl ?_
    refine g_if_eq (tgt := 40) X dX11_years_21 (by decide) (fun c3 => ?_) (fun c3 => ?_)
    · replace h := (if_pos c3).symm.trans h
      refine g_iconst X dX11_years_40 (v := (-1 : Int32)) ic_m1 ?_
      exact g_iret X hr hlk dX11_years_41 (by cases h; rfl)
    · replace h := (if_neg c3).symm.trans h
      refine g_aload_n X dX11_years_24 rfl 0 rfl ?_
      refine g_get X fl_RX11_61 dX11_years_25 kd_565 (v := .ref (be θ + 578)) rfl ?_
      refine g_sipush X dX11_years_28 (v := (130 : Int32)) sp_130 ?_
      refine g_iald X kd_578 ln_578 (inb_in (show inb (130 : Int32) 312 = true by decide)) dX11_years_31 ?_
      refine g_iload_n X dX11_years_32 rfl 1 rfl ?_
      refine g_iadd X dX11_years_33 ?_
      refine g_sipush X dX11_years_34 (v := (9999 : Int32)) sp_9999 ?_
      refine g_icmp_le (tgt := 42) X dX11_years_37 (by decide) (fun c4 => ?_) (fun c4 => ?_)
      · replace h := (if_pos c4).symm.trans h
        refine g_aload_n X dX11_years_42 rfl 0 rfl ?_
        refine g_lload_n X dX11_years_43 rfl 2 rfl ?_
        refine g_putJ X fl_RX11_448 dX11_years_44 kd_565 rfl rfl rfl ?_
        refine g_iconst X dX11_years_47 (v := (0 : Int32)) ic_0 ?_
        refine g_istore X dX11_years_48 (by decide) (lv' := [(4, .int (0 : Int32)), (0, .ref (be θ + 565)), (1, .int x1), (2, .long x2)]) rfl ?_
        exact g_sub (lv' := [(0, .ref (be θ + 565)), (1, .int x1), (2, .long x2), (4, .int (0 : Int32))]) [1, 2, 3, 0] rfl (gl_Model_years_L50 X hr hlk    FU _ _ h rfl)
      · replace h := (if_neg c4).symm.trans h
        refine g_iconst X dX11_years_40 (v := (-1 : Int32)) ic_m1 ?_
        exact g_iret X hr hlk dX11_years_41 (by cases h; rfl)
set_option maxHeartbeats 4000000 in
set_option maxRecDepth 20000 in
theorem c_Model_years {θ : Th} {l : Launch} {σ : Mem} {x1 : Int32} {x2 : Int64} {r : Int32 × Mem}  (h : f_Model_years σ x1 x2 = some r) : Cn θ l yX11_years cX11_years 6 (some .int) 67 0 0 [.ref (be θ + 565), .int x1, .long x2] σ (some (.int r.1), r.2) :=
  Cn.of (by decide) (Nat.le_of_ble_eq_true rfl) (fun p e s m below meth c X hr hlk => g_Model_years X hr hlk  h)
theorem dX11_status_0 : decode cX11_status 0 = .ok (.aload_n 0, 1) := by decide +kernel
theorem dX11_status_1 : decode cX11_status 1 = .ok (.iconst 0, 1) := by decide +kernel
theorem dX11_status_2 : decode cX11_status 2 = .ok (.putfield 112, 3) := by decide +kernel
theorem dX11_status_5 : decode cX11_status 5 = .ok (.iload_n 1, 1) := by decide +kernel
theorem dX11_status_6 : decode cX11_status 6 = .ok (.i2l, 1) := by decide +kernel
theorem dX11_status_7 : decode cX11_status 7 = .ok (.lconst 0, 1) := by decide +kernel
theorem dX11_status_8 : decode cX11_status 8 = .ok (.ldc2_w 409, 3) := by decide +kernel
theorem dX11_status_11 : decode cX11_status 11 = .ok (.invokestatic 233, 3) := by decide +kernel
theorem dX11_status_14 : decode cX11_status 14 = .ok (.ifCond .eq 12, 3) := by decide +kernel
theorem dX11_status_17 : decode cX11_status 17 = .ok (.aload_n 0, 1) := by decide +kernel
theorem dX11_status_18 : decode cX11_status 18 = .ok (.getfield 67, 3) := by decide +kernel
theorem dX11_status_21 : decode cX11_status 21 = .ok (.iload_n 1, 1) := by decide +kernel
theorem dX11_status_22 : decode cX11_status 22 = .ok (.iaload, 1) := by decide +kernel
theorem dX11_status_23 : decode cX11_status 23 = .ok (.goto 4, 3) := by decide +kernel
theorem dX11_status_26 : decode cX11_status 26 = .ok (.iconst (-1), 1) := by decide +kernel
theorem dX11_status_27 : decode cX11_status 27 = .ok (.ireturn, 1) := by decide +kernel
def f_Model_status (σ : Mem) (x1 : Int32) : Option (Int32 × Mem) :=
  (f_Model_isIn (sI σ 565 0 (0 : Int32)) ((x1).toInt64) (0 : Int64) (5 : Int64)).bind fun q1 =>
  if q1 = (0 : Int32) then
    some ((-1 : Int32), (sI σ 565 0 (0 : Int32)))
  else
    if inb x1 6 then
      some ((mI (sI σ 565 0 (0 : Int32)) 580 x1.toNatClampNeg), (sI σ 565 0 (0 : Int32)))
    else none
set_option maxHeartbeats 4000000 in
set_option maxRecDepth 20000 in
theorem g_Model_status (X : Cx θ p s m args c cX11_status 2 RX11) (hr : meth.sig.returnType = some .int) (hlk : meth.locks = false)  {σ : Mem} {x1 : Int32} {r : Int32 × Mem}  (h : f_Model_status σ x1 = some r) : GB θ p l e 1 s m args below meth c 2 (some (.int r.1), r.2) 0 [(0, .ref (be θ + 565)), (1, .int x1)] [] σ := by
  unfold f_Model_status at h
  refine g_aload_n X dX11_status_0 rfl 0 rfl ?_
  refine g_iconst X dX11_status_1 (v := (0 : Int32)) ic_0 ?_
  refine g_putI X fl_RX11_112 dX11_status_2 kd_565 rfl rfl rfl ?_
  refine g_iload_n X dX11_status_5 rfl 1 rfl ?_
  refine g_i2l X dX11_status_6 (v := ((x1).toInt64)) rfl ?_
  refine g_lconst X dX11_status_7 (v := (0 : Int64)) rfl ?_
  refine g_ldc2 X cst_RX11_409 dX11_status_8 ?_
  obtain ⟨q1, hq1, h⟩ := Option.bind_eq_some_iff.mp h
  refine g_cS X (c_Model_isIn  hq1) lk_RX11_233 my_X11_isIn (As := [.long ((x1).toInt64), .long (0 : Int64), .long (5 : Int64)]) (rest := []) rfl rfl (Nat.le_of_ble_eq_true rfl) ⟨(Nat.le_of_ble_eq_true rfl), (Nat.le_of_ble_eq_true rfl)⟩ ⟨(Nat.le_of_ble_eq_true rfl), (Nat.le_of_ble_eq_true rfl)⟩ dX11_status_11 (st' := [.int q1]) (σ' := (sI σ 565 0 (0 : Int32))) rfl rfl ?_
  refine g_if_eq (tgt := 26) X dX11_status_14 (by decide) (fun c2 => ?_) (fun c2 => ?_)
  · replace h := (if_pos c2).symm.trans h
    refine g_iconst X dX11_status_26 (v := (-1 : Int32)) ic_m1 ?_
    exact g_iret X hr hlk dX11_status_27 (by cases h; rfl)
  · replace h := (if_neg c2).symm.trans h
    refine g_aload_n X dX11_status_17 rfl 0 rfl ?_
    refine g_get X fl_RX11_67 dX11_status_18 kd_565 (v := .ref (be θ + 580)) rfl ?_
    refine g_iload_n X dX11_status_21 rfl 1 rfl ?_
    obtain ⟨g3, h⟩ := ite_some h
    refine g_iald X kd_580 ln_580 (inb_in g3) dX11_status_22 ?_
    refine g_goto (tgt := 27) X dX11_status_23 (by decide) ?_
    exact g_iret X hr hlk dX11_status_27 (by cases h; rfl)
set_option maxHeartbeats 4000000 in
set_option maxRecDepth 20000 in
theorem c_Model_status {θ : Th} {l : Launch} {σ : Mem} {x1 : Int32} {r : Int32 × Mem}  (h : f_Model_status σ x1 = some r) : Cn θ l yX11_status cX11_status 2 (some .int) 1 0 0 [.ref (be θ + 565), .int x1] σ (some (.int r.1), r.2) :=
  Cn.of (by decide) (Nat.le_of_ble_eq_true rfl) (fun p e s m below meth c X hr hlk => g_Model_status X hr hlk  h)
theorem dX11_undo_0 : decode cX11_undo 0 = .ok (.aload_n 0, 1) := by decide +kernel
theorem dX11_undo_1 : decode cX11_undo 1 = .ok (.iconst 0, 1) := by decide +kernel
theorem dX11_undo_2 : decode cX11_undo 2 = .ok (.putfield 112, 3) := by decide +kernel
theorem dX11_undo_5 : decode cX11_undo 5 = .ok (.aload_n 0, 1) := by decide +kernel
theorem dX11_undo_6 : decode cX11_undo 6 = .ok (.getfield 320, 3) := by decide +kernel
theorem dX11_undo_9 : decode cX11_undo 9 = .ok (.ifCond .ne 5, 3) := by decide +kernel
theorem dX11_undo_12 : decode cX11_undo 12 = .ok (.iconst (-1), 1) := by decide +kernel
theorem dX11_undo_13 : decode cX11_undo 13 = .ok (.ireturn, 1) := by decide +kernel
theorem dX11_undo_14 : decode cX11_undo 14 = .ok (.aload_n 0, 1) := by decide +kernel
theorem dX11_undo_15 : decode cX11_undo 15 = .ok (.dup, 1) := by decide +kernel
theorem dX11_undo_16 : decode cX11_undo 16 = .ok (.getfield 320, 3) := by decide +kernel
theorem dX11_undo_19 : decode cX11_undo 19 = .ok (.iconst 1, 1) := by decide +kernel
theorem dX11_undo_20 : decode cX11_undo 20 = .ok (.isub, 1) := by decide +kernel
theorem dX11_undo_21 : decode cX11_undo 21 = .ok (.putfield 320, 3) := by decide +kernel
theorem dX11_undo_24 : decode cX11_undo 24 = .ok (.iconst 0, 1) := by decide +kernel
theorem dX11_undo_25 : decode cX11_undo 25 = .ok (.istore_n 1, 1) := by decide +kernel
theorem dX11_undo_26 : decode cX11_undo 26 = .ok (.iload_n 1, 1) := by decide +kernel
theorem dX11_undo_27 : decode cX11_undo 27 = .ok (.sipush 312, 3) := by decide +kernel
theorem dX11_undo_30 : decode cX11_undo 30 = .ok (.if_icmp .ge 30, 3) := by decide +kernel
theorem dX11_undo_33 : decode cX11_undo 33 = .ok (.aload_n 0, 1) := by decide +kernel
theorem dX11_undo_34 : decode cX11_undo 34 = .ok (.getfield 61, 3) := by decide +kernel
theorem dX11_undo_37 : decode cX11_undo 37 = .ok (.iload_n 1, 1) := by decide +kernel
theorem dX11_undo_38 : decode cX11_undo 38 = .ok (.aload_n 0, 1) := by decide +kernel
theorem dX11_undo_39 : decode cX11_undo 39 = .ok (.getfield 90, 3) := by decide +kernel
theorem dX11_undo_42 : decode cX11_undo 42 = .ok (.sipush 312, 3) := by decide +kernel
theorem dX11_undo_45 : decode cX11_undo 45 = .ok (.aload_n 0, 1) := by decide +kernel
theorem dX11_undo_46 : decode cX11_undo 46 = .ok (.getfield 320, 3) := by decide +kernel
theorem dX11_undo_49 : decode cX11_undo 49 = .ok (.imul, 1) := by decide +kernel
theorem dX11_undo_50 : decode cX11_undo 50 = .ok (.iload_n 1, 1) := by decide +kernel
theorem dX11_undo_51 : decode cX11_undo 51 = .ok (.iadd, 1) := by decide +kernel
theorem dX11_undo_52 : decode cX11_undo 52 = .ok (.iaload, 1) := by decide +kernel
theorem dX11_undo_53 : decode cX11_undo 53 = .ok (.iastore, 1) := by decide +kernel
theorem dX11_undo_54 : decode cX11_undo 54 = .ok (.iinc 1 1, 3) := by decide +kernel
theorem dX11_undo_57 : decode cX11_undo 57 = .ok (.goto (-31), 3) := by decide +kernel
theorem dX11_undo_60 : decode cX11_undo 60 = .ok (.aload_n 0, 1) := by decide +kernel
theorem dX11_undo_61 : decode cX11_undo 61 = .ok (.getfield 320, 3) := by decide +kernel
theorem dX11_undo_64 : decode cX11_undo 64 = .ok (.ireturn, 1) := by decide +kernel
def f_Model_undo_L26  (a : Mem × Int32) : Option ((Mem × Int32) ⊕ (Int32 × Mem)) :=
  @Prod.casesOn (Mem) (Int32) (fun _ => Option ((Mem × Int32) ⊕ (Int32 × Mem))) a fun τ z1 =>
  if (312 : Int32) ≤ z1 then
    some (.inr ((mI τ 565 44), τ))
  else
    if inb (((312 : Int32) * (mI τ 565 44)) + z1) 12480 then
      if inb z1 312 then
        some (.inl ((sI τ 578 z1.toNatClampNeg (mI τ 583 (((312 : Int32) * (mI τ 565 44)) + z1).toNatClampNeg)), (z1 + (1 : Int32))))
      else none
    else none
def f_Model_undo (σ : Mem)  : Option (Int32 × Mem) :=
  if (mI (sI σ 565 0 (0 : Int32)) 565 44) = (0 : Int32) then
    some ((-1 : Int32), (sI σ 565 0 (0 : Int32)))
  else
    loopF (f_Model_undo_L26 ) FU ((sI (sI σ 565 0 (0 : Int32)) 565 44 ((mI (sI σ 565 0 (0 : Int32)) 565 44) - (1 : Int32))), (0 : Int32))
set_option maxHeartbeats 4000000 in
set_option maxRecDepth 20000 in
theorem gs_Model_undo_L26 (X : Cx θ p s m args c cX11_undo 2 RX11) (hr : meth.sig.returnType = some .int) (hlk : meth.locks = false)   {r : Int32 × Mem}  (τ : Mem) (z1 : Int32) (x : (Mem × Int32) ⊕ (Int32 × Mem)) (h : f_Model_undo_L26  (τ, z1) = some x) (hk : Sum.elim (fun a => @Prod.casesOn (Mem) (Int32) (fun _ => Prop) a fun τ z1 => GB θ p l e 0 s m args below meth c 2 (some (.int r.1), r.2) 26 [(0, .ref (be θ + 565)), (1, .int z1)] [] τ) (fun b => b = r) x) : GB θ p l e 0 s m args below meth c 2 (some (.int r.1), r.2) 26 [(0, .ref (be θ + 565)), (1, .int z1)] [] τ := by
  unfold f_Model_undo_L26 at h
  dsimp only at h
  refine g_iload_n X dX11_undo_26 rfl 1 rfl ?_
  refine g_sipush X dX11_undo_27 (v := (312 : Int32)) sp_312 ?_
  refine g_icmp_ge (tgt := 60) X dX11_undo_30 (by decide) (fun c2 => ?_) (fun c2 => ?_)
  · replace h := (if_pos c2).symm.trans h
    refine g_aload_n X dX11_undo_60 rfl 0 rfl ?_
    refine g_get X fl_RX11_320 dX11_undo_61 kd_565 (v := .int (mI τ 565 44)) rfl ?_
    have hk := inr_hk h hk
    have hk : ((mI τ 565 44), τ) = r := hk
    subst hk
    exact g_iret X hr hlk dX11_undo_64 rfl
  · replace h := (if_neg c2).symm.trans h
    refine g_aload_n X dX11_undo_33 rfl 0 rfl ?_
    refine g_get X fl_RX11_61 dX11_undo_34 kd_565 (v := .ref (be θ + 578)) rfl ?_
    refine g_iload_n X dX11_undo_37 rfl 1 rfl ?_
    refine g_aload_n X dX11_undo_38 rfl 0 rfl ?_
    refine g_get X fl_RX11_90 dX11_undo_39 kd_565 (v := .ref (be θ + 583)) rfl ?_
    refine g_sipush X dX11_undo_42 (v := (312 : Int32)) sp_312 ?_
    refine g_aload_n X dX11_undo_45 rfl 0 rfl ?_
    refine g_get X fl_RX11_320 dX11_undo_46 kd_565 (v := .int (mI τ 565 44)) rfl ?_
    refine g_imul X dX11_undo_49 ?_
    refine g_iload_n X dX11_undo_50 rfl 1 rfl ?_
    refine g_iadd X dX11_undo_51 ?_
    obtain ⟨g3, h⟩ := ite_some h
    refine g_iald X kd_583 ln_583 (inb_in g3) dX11_undo_52 ?_
    obtain ⟨g4, h⟩ := ite_some h
    refine g_iast X kd_578 ln_578 (inb_in g4) dX11_undo_53 ?_
    refine g_iinc X dX11_undo_54 (kq := 1) rfl (congrArg (HAdd.hAdd _) ic_1) (by decide) (lv' := [(1, .int (z1 + (1 : Int32))), (0, .ref (be θ + 565))]) rfl ?_
    refine g_goto (tgt := 26) X dX11_undo_57 (by decide) ?_
    have hk := inl_hk h hk
    exact g_sub (lv' := [(0, .ref (be θ + 565)), (1, .int (z1 + (1 : Int32)))]) [1, 0] rfl hk
set_option maxHeartbeats 4000000 in
set_option maxRecDepth 20000 in
theorem gl_Model_undo_L26 (X : Cx θ p s m args c cX11_undo 2 RX11) (hr : meth.sig.returnType = some .int) (hlk : meth.locks = false)   {r : Int32 × Mem}  (n : Nat) (a : Mem × Int32) (b : Int32 × Mem) (h : loopF (f_Model_undo_L26 ) n a = some b) (hk : (fun b => b = r) b) : (fun a => @Prod.casesOn (Mem) (Int32) (fun _ => Prop) a fun τ z1 => GB θ p l e 0 s m args below meth c 2 (some (.int r.1), r.2) 26 [(0, .ref (be θ + 565)), (1, .int z1)] [] τ) a :=
  loopF_by (P := (fun a => @Prod.casesOn (Mem) (Int32) (fun _ => Prop) a fun τ z1 => GB θ p l e 0 s m args below meth c 2 (some (.int r.1), r.2) 26 [(0, .ref (be θ + 565)), (1, .int z1)] [] τ)) (K := (fun b => b = r)) (fun a x h hk => by obtain ⟨τ, z1⟩ := a; exact gs_Model_undo_L26 X hr hlk   τ z1 x h hk) n a b h hk
set_option maxHeartbeats 4000000 in
set_option maxRecDepth 20000 in
theorem g_Model_undo (X : Cx θ p s m args c cX11_undo 2 RX11) (hr : meth.sig.returnType = some .int) (hlk : meth.locks = false)  {σ : Mem}  {r : Int32 × Mem}  (h : f_Model_undo σ  = some r) : GB θ p l e 0 s m args below meth c 2 (some (.int r.1), r.2) 0 [(0, .ref (be θ + 565))] [] σ := by
  unfold f_Model_undo at h
  refine g_aload_n X dX11_undo_0 rfl 0 rfl ?_
  refine g_iconst X dX11_undo_1 (v := (0 : Int32)) ic_0 ?_
  refine g_putI X fl_RX11_112 dX11_undo_2 kd_565 rfl rfl rfl ?_
  refine g_aload_n X dX11_undo_5 rfl 0 rfl ?_
  refine g_get X fl_RX11_320 dX11_undo_6 kd_565 (v := .int (mI (sI σ 565 0 (0 : Int32)) 565 44)) rfl ?_
  refine g_if_ne (tgt := 14) X dX11_undo_9 (by decide) (fun c1 => ?_) (fun c1 => ?_)
  · replace h := (if_neg c1).symm.trans h
    refine g_aload_n X dX11_undo_14 rfl 0 rfl ?_
    refine g_dup X dX11_undo_15 rfl ?_
    refine g_get X fl_RX11_320 dX11_undo_16 kd_565 (v := .int (mI (sI σ 565 0 (0 : Int32)) 565 44)) rfl ?_
    refine g_iconst X dX11_undo_19 (v := (1 : Int32)) ic_1 ?_
    refine g_isub X dX11_undo_20 ?_
    refine g_putI X fl_RX11_320 dX11_undo_21 kd_565 rfl rfl rfl ?_
    refine g_iconst X dX11_undo_24 (v := (0 : Int32)) ic_0 ?_
    refine g_istore_n X dX11_undo_25 rfl (by decide) (lv' := [(1, .int (0 : Int32)), (0, .ref (be θ + 565))]) rfl ?_
    exact g_sub (lv' := [(0, .ref (be θ + 565)), (1, .int (0 : Int32))]) [1, 0] rfl (gl_Model_undo_L26 X hr hlk    FU _ _ h rfl)
  · replace h := (if_pos c1).symm.trans h
    refine g_iconst X dX11_undo_12 (v := (-1 : Int32)) ic_m1 ?_
    exact g_iret X hr hlk dX11_undo_13 (by cases h; rfl)
set_option maxHeartbeats 4000000 in
set_option maxRecDepth 20000 in
theorem c_Model_undo {θ : Th} {l : Launch} {σ : Mem}  {r : Int32 × Mem}  (h : f_Model_undo σ  = some r) : Cn θ l yX11_undo cX11_undo 2 (some .int) 0 0 0 [.ref (be θ + 565)] σ (some (.int r.1), r.2) :=
  Cn.of (by decide) (Nat.le_of_ble_eq_true rfl) (fun p e s m below meth c X hr hlk => g_Model_undo X hr hlk  h)
theorem dX11_log_0 : decode cX11_log 0 = .ok (.aload_n 0, 1) := by decide +kernel
theorem dX11_log_1 : decode cX11_log 1 = .ok (.iconst 0, 1) := by decide +kernel
theorem dX11_log_2 : decode cX11_log 2 = .ok (.putfield 112, 3) := by decide +kernel
theorem dX11_log_5 : decode cX11_log 5 = .ok (.iload_n 1, 1) := by decide +kernel
theorem dX11_log_6 : decode cX11_log 6 = .ok (.i2l, 1) := by decide +kernel
theorem dX11_log_7 : decode cX11_log 7 = .ok (.lconst 0, 1) := by decide +kernel
theorem dX11_log_8 : decode cX11_log 8 = .ok (.aload_n 0, 1) := by decide +kernel
theorem dX11_log_9 : decode cX11_log 9 = .ok (.getfield 61, 3) := by decide +kernel
theorem dX11_log_12 : decode cX11_log 12 = .ok (.sipush 131, 3) := by decide +kernel
theorem dX11_log_15 : decode cX11_log 15 = .ok (.iaload, 1) := by decide +kernel
theorem dX11_log_16 : decode cX11_log 16 = .ok (.iconst 1, 1) := by decide +kernel
theorem dX11_log_17 : decode cX11_log 17 = .ok (.isub, 1) := by decide +kernel
theorem dX11_log_18 : decode cX11_log 18 = .ok (.i2l, 1) := by decide +kernel
theorem dX11_log_19 : decode cX11_log 19 = .ok (.invokestatic 233, 3) := by decide +kernel
theorem dX11_log_22 : decode cX11_log 22 = .ok (.ifCond .eq 43, 3) := by decide +kernel
theorem dX11_log_25 : decode cX11_log 25 = .ok (.iload_n 2, 1) := by decide +kernel
theorem dX11_log_26 : decode cX11_log 26 = .ok (.i2l, 1) := by decide +kernel
theorem dX11_log_27 : decode cX11_log 27 = .ok (.lconst 0, 1) := by decide +kernel
theorem dX11_log_28 : decode cX11_log 28 = .ok (.ldc2_w 288, 3) := by decide +kernel
theorem dX11_log_31 : decode cX11_log 31 = .ok (.invokestatic 233, 3) := by decide +kernel
theorem dX11_log_34 : decode cX11_log 34 = .ok (.ifCond .eq 31, 3) := by decide +kernel
theorem dX11_log_37 : decode cX11_log 37 = .ok (.aload_n 0, 1) := by decide +kernel
theorem dX11_log_38 : decode cX11_log 38 = .ok (.getfield 61, 3) := by decide +kernel
theorem dX11_log_41 : decode cX11_log 41 = .ok (.sipush 132, 3) := by decide +kernel
theorem dX11_log_44 : decode cX11_log 44 = .ok (.iconst 3, 1) := by decide +kernel
theorem dX11_log_45 : decode cX11_log 45 = .ok (.aload_n 0, 1) := by decide +kernel
theorem dX11_log_46 : decode cX11_log 46 = .ok (.getfield 61, 3) := by decide +kernel
theorem dX11_log_49 : decode cX11_log 49 = .ok (.sipush 131, 3) := by decide +kernel
theorem dX11_log_52 : decode cX11_log 52 = .ok (.iaload, 1) := by decide +kernel
theorem dX11_log_53 : decode cX11_log 53 = .ok (.iconst 1, 1) := by decide +kernel
theorem dX11_log_54 : decode cX11_log 54 = .ok (.isub, 1) := by decide +kernel
theorem dX11_log_55 : decode cX11_log 55 = .ok (.iload_n 1, 1) := by decide +kernel
theorem dX11_log_56 : decode cX11_log 56 = .ok (.isub, 1) := by decide +kernel
theorem dX11_log_57 : decode cX11_log 57 = .ok (.imul, 1) := by decide +kernel
theorem dX11_log_58 : decode cX11_log 58 = .ok (.iadd, 1) := by decide +kernel
theorem dX11_log_59 : decode cX11_log 59 = .ok (.iload_n 2, 1) := by decide +kernel
theorem dX11_log_60 : decode cX11_log 60 = .ok (.iadd, 1) := by decide +kernel
theorem dX11_log_61 : decode cX11_log 61 = .ok (.iaload, 1) := by decide +kernel
theorem dX11_log_62 : decode cX11_log 62 = .ok (.goto 4, 3) := by decide +kernel
theorem dX11_log_65 : decode cX11_log 65 = .ok (.iconst (-1), 1) := by decide +kernel
theorem dX11_log_66 : decode cX11_log 66 = .ok (.ireturn, 1) := by decide +kernel
def f_Model_log (σ : Mem) (x1 : Int32) (x2 : Int32) : Option (Int32 × Mem) :=
  (f_Model_isIn (sI σ 565 0 (0 : Int32)) ((x1).toInt64) (0 : Int64) ((((mI (sI σ 565 0 (0 : Int32)) 578 (131 : Int32).toNatClampNeg) - (1 : Int32))).toInt64)).bind fun q1 =>
  if q1 = (0 : Int32) then
    some ((-1 : Int32), (sI σ 565 0 (0 : Int32)))
  else
    (f_Model_isIn (sI σ 565 0 (0 : Int32)) ((x2).toInt64) (0 : Int64) (2 : Int64)).bind fun q3 =>
    if q3 = (0 : Int32) then
      some ((-1 : Int32), (sI σ 565 0 (0 : Int32)))
    else
      if inb (((132 : Int32) + ((3 : Int32) * (((mI (sI σ 565 0 (0 : Int32)) 578 (131 : Int32).toNatClampNeg) - (1 : Int32)) - x1))) + x2) 312 then
        some ((mI (sI σ 565 0 (0 : Int32)) 578 (((132 : Int32) + ((3 : Int32) * (((mI (sI σ 565 0 (0 : Int32)) 578 (131 : Int32).toNatClampNeg) - (1 : Int32)) - x1))) + x2).toNatClampNeg), (sI σ 565 0 (0 : Int32)))
      else none
set_option maxHeartbeats 4000000 in
set_option maxRecDepth 20000 in
theorem g_Model_log (X : Cx θ p s m args c cX11_log 3 RX11) (hr : meth.sig.returnType = some .int) (hlk : meth.locks = false)  {σ : Mem} {x1 : Int32} {x2 : Int32} {r : Int32 × Mem}  (h : f_Model_log σ x1 x2 = some r) : GB θ p l e 1 s m args below meth c 3 (some (.int r.1), r.2) 0 [(0, .ref (be θ + 565)), (1, .int x1), (2, .int x2)] [] σ := by
  unfold f_Model_log at h
  refine g_aload_n X dX11_log_0 rfl 0 rfl ?_
  refine g_iconst X dX11_log_1 (v := (0 : Int32)) ic_0 ?_
  refine g_putI X fl_RX11_112 dX11_log_2 kd_565 rfl rfl rfl ?_
  refine g_iload_n X dX11_log_5 rfl 1 rfl ?_
  refine g_i2l X dX11_log_6 (v := ((x1).toInt64)) rfl ?_
  refine g_lconst X dX11_log_7 (v := (0 : Int64)) rfl ?_
  refine g_aload_n X dX11_log_8 rfl 0 rfl ?_
  refine g_get X fl_RX11_61 dX11_log_9 kd_565 (v := .ref (be θ + 578)) rfl ?_
  refine g_sipush X dX11_log_12 (v := (131 : Int32)) sp_131 ?_
  refine g_iald X kd_578 ln_578 (inb_in (show inb (131 : Int32) 312 = true by decide)) dX11_log_15 ?_
  refine g_iconst X dX11_log_16 (v := (1 : Int32)) ic_1 ?_
  refine g_isub X dX11_log_17 ?_
  refine g_i2l X dX11_log_18 (v := ((((mI (sI σ 565 0 (0 : Int32)) 578 (131 : Int32).toNatClampNeg) - (1 : Int32))).toInt64)) rfl ?_
  obtain ⟨q1, hq1, h⟩ := Option.bind_eq_some_iff.mp h
  refine g_cS X (c_Model_isIn  hq1) lk_RX11_233 my_X11_isIn (As := [.long ((x1).toInt64), .long (0 : Int64), .long ((((mI (sI σ 565 0 (0 : Int32)) 578 (131 : Int32).toNatClampNeg) - (1 : Int32))).toInt64)]) (rest := []) rfl rfl (Nat.le_of_ble_eq_true rfl) ⟨(Nat.le_of_ble_eq_true rfl), (Nat.le_of_ble_eq_true rfl)⟩ ⟨(Nat.le_of_ble_eq_true rfl), (Nat.le_of_ble_eq_true rfl)⟩ dX11_log_19 (st' := [.int q1]) (σ' := (sI σ 565 0 (0 : Int32))) rfl rfl ?_
  refine g_if_eq (tgt := 65) X dX11_log_22 (by decide) (fun c2 => ?_) (fun c2 => ?_)
  · replace h := (if_pos c2).symm.trans h
    refine g_iconst X dX11_log_65 (v := (-1 : Int32)) ic_m1 ?_
    exact g_iret X hr hlk dX11_log_66 (by cases h; rfl)
  · replace h := (if_neg c2).symm.trans h
    refine g_iload_n X dX11_log_25 rfl 2 rfl ?_
    refine g_i2l X dX11_log_26 (v := ((x2).toInt64)) rfl ?_
    refine g_lconst X dX11_log_27 (v := (0 : Int64)) rfl ?_
    refine g_ldc2 X cst_RX11_288 dX11_log_28 ?_
    obtain ⟨q3, hq3, h⟩ := Option.bind_eq_some_iff.mp h
    refine g_cS X (c_Model_isIn  hq3) lk_RX11_233 my_X11_isIn (As := [.long ((x2).toInt64), .long (0 : Int64), .long (2 : Int64)]) (rest := []) rfl rfl (Nat.le_of_ble_eq_true rfl) ⟨(Nat.le_of_ble_eq_true rfl), (Nat.le_of_ble_eq_true rfl)⟩ ⟨(Nat.le_of_ble_eq_true rfl), (Nat.le_of_ble_eq_true rfl)⟩ dX11_log_31 (st' := [.int q3]) (σ' := (sI σ 565 0 (0 : Int32))) rfl rfl ?_
    refine g_if_eq (tgt := 65) X dX11_log_34 (by decide) (fun c4 => ?_) (fun c4 => ?_)
    · replace h := (if_pos c4).symm.trans h
      refine g_iconst X dX11_log_65 (v := (-1 : Int32)) ic_m1 ?_
      exact g_iret X hr hlk dX11_log_66 (by cases h; rfl)
    · replace h := (if_neg c4).symm.trans h
      refine g_aload_n X dX11_log_37 rfl 0 rfl ?_
      refine g_get X fl_RX11_61 dX11_log_38 kd_565 (v := .ref (be θ + 578)) rfl ?_
      refine g_sipush X dX11_log_41 (v := (132 : Int32)) sp_132 ?_
      refine g_iconst X dX11_log_44 (v := (3 : Int32)) ic_3 ?_
      refine g_aload_n X dX11_log_45 rfl 0 rfl ?_
      refine g_get X fl_RX11_61 dX11_log_46 kd_565 (v := .ref (be θ + 578)) rfl ?_
      refine g_sipush X dX11_log_49 (v := (131 : Int32)) sp_131 ?_
      refine g_iald X kd_578 ln_578 (inb_in (show inb (131 : Int32) 312 = true by decide)) dX11_log_52 ?_
      refine g_iconst X dX11_log_53 (v := (1 : Int32)) ic_1 ?_
      refine g_isub X dX11_log_54 ?_
      refine g_iload_n X dX11_log_55 rfl 1 rfl ?_
      refine g_isub X dX11_log_56 ?_
      refine g_imul X dX11_log_57 ?_
      refine g_iadd X dX11_log_58 ?_
      refine g_iload_n X dX11_log_59 rfl 2 rfl ?_
      refine g_iadd X dX11_log_60 ?_
      obtain ⟨g5, h⟩ := ite_some h
      refine g_iald X kd_578 ln_578 (inb_in g5) dX11_log_61 ?_
      refine g_goto (tgt := 66) X dX11_log_62 (by decide) ?_
      exact g_iret X hr hlk dX11_log_66 (by cases h; rfl)
set_option maxHeartbeats 4000000 in
set_option maxRecDepth 20000 in
theorem c_Model_log {θ : Th} {l : Launch} {σ : Mem} {x1 : Int32} {x2 : Int32} {r : Int32 × Mem}  (h : f_Model_log σ x1 x2 = some r) : Cn θ l yX11_log cX11_log 3 (some .int) 1 0 0 [.ref (be θ + 565), .int x1, .int x2] σ (some (.int r.1), r.2) :=
  Cn.of (by decide) (Nat.le_of_ble_eq_true rfl) (fun p e s m below meth c X hr hlk => g_Model_log X hr hlk  h)
theorem dX11_isPlan_0 : decode cX11_isPlan 0 = .ok (.iload_n 1, 1) := by decide +kernel
theorem dX11_isPlan_1 : decode cX11_isPlan 1 = .ok (.ifCond .lt 15, 3) := by decide +kernel
theorem dX11_isPlan_4 : decode cX11_isPlan 4 = .ok (.iload_n 1, 1) := by decide +kernel
theorem dX11_isPlan_5 : decode cX11_isPlan 5 = .ok (.aload_n 0, 1) := by decide +kernel
theorem dX11_isPlan_6 : decode cX11_isPlan 6 = .ok (.getfield 302, 3) := by decide +kernel
theorem dX11_isPlan_9 : decode cX11_isPlan 9 = .ok (.if_icmp .ge 7, 3) := by decide +kernel
theorem dX11_isPlan_12 : decode cX11_isPlan 12 = .ok (.iconst 1, 1) := by decide +kernel
theorem dX11_isPlan_13 : decode cX11_isPlan 13 = .ok (.goto 4, 3) := by decide +kernel
theorem dX11_isPlan_16 : decode cX11_isPlan 16 = .ok (.iconst 0, 1) := by decide +kernel
theorem dX11_isPlan_17 : decode cX11_isPlan 17 = .ok (.ireturn, 1) := by decide +kernel
def f_Model_isPlan (σ : Mem) (x1 : Int32) : Option (Int32) :=
  if x1 < (0 : Int32) then
    some (0 : Int32)
  else
    if (mI σ 565 30) ≤ x1 then
      some (0 : Int32)
    else
      some (1 : Int32)
set_option maxHeartbeats 4000000 in
set_option maxRecDepth 20000 in
theorem g_Model_isPlan (X : Cx θ p s m args c cX11_isPlan 2 RX11) (hr : meth.sig.returnType = some .boolean) (hlk : meth.locks = false)  {σ : Mem} {x1 : Int32} {r : Int32}  (h : f_Model_isPlan σ x1 = some r) : GB θ p l e 0 s m args below meth c 2 (some (.int r), σ) 0 [(0, .ref (be θ + 565)), (1, .int x1)] [] σ := by
  unfold f_Model_isPlan at h
  refine g_iload_n X dX11_isPlan_0 rfl 1 rfl ?_
  refine g_if_lt (tgt := 16) X dX11_isPlan_1 (by decide) (fun c1 => ?_) (fun c1 => ?_)
  · replace h := (if_pos c1).symm.trans h
    refine g_iconst X dX11_isPlan_16 (v := (0 : Int32)) ic_0 ?_
    exact g_zret X hr hlk bz0 dX11_isPlan_17 (by cases h; rfl)
  · replace h := (if_neg c1).symm.trans h
    refine g_iload_n X dX11_isPlan_4 rfl 1 rfl ?_
    refine g_aload_n X dX11_isPlan_5 rfl 0 rfl ?_
    refine g_get X fl_RX11_302 dX11_isPlan_6 kd_565 (v := .int (mI σ 565 30)) rfl ?_
    refine g_icmp_ge (tgt := 16) X dX11_isPlan_9 (by decide) (fun c2 => ?_) (fun c2 => ?_)
    · replace h := (if_pos c2).symm.trans h
      refine g_iconst X dX11_isPlan_16 (v := (0 : Int32)) ic_0 ?_
      exact g_zret X hr hlk bz0 dX11_isPlan_17 (by cases h; rfl)
    · replace h := (if_neg c2).symm.trans h
      refine g_iconst X dX11_isPlan_12 (v := (1 : Int32)) ic_1 ?_
      refine g_goto (tgt := 17) X dX11_isPlan_13 (by decide) ?_
      exact g_zret X hr hlk bz1 dX11_isPlan_17 (by cases h; rfl)
set_option maxHeartbeats 4000000 in
set_option maxRecDepth 20000 in
theorem c_Model_isPlan {θ : Th} {l : Launch} {σ : Mem} {x1 : Int32} {r : Int32}  (h : f_Model_isPlan σ x1 = some r) : Cn θ l yX11_isPlan cX11_isPlan 2 (some .boolean) 0 0 0 [.ref (be θ + 565), .int x1] σ (some (.int r), σ) :=
  Cn.of (by decide) (Nat.le_of_ble_eq_true rfl) (fun p e s m below meth c X hr hlk => g_Model_isPlan X hr hlk  h)
theorem dX11_step_0 : decode cX11_step 0 = .ok (.aload_n 0, 1) := by decide +kernel
theorem dX11_step_1 : decode cX11_step 1 = .ok (.iconst 0, 1) := by decide +kernel
theorem dX11_step_2 : decode cX11_step 2 = .ok (.putfield 112, 3) := by decide +kernel
theorem dX11_step_5 : decode cX11_step 5 = .ok (.aload_n 0, 1) := by decide +kernel
theorem dX11_step_6 : decode cX11_step 6 = .ok (.iload_n 1, 1) := by decide +kernel
theorem dX11_step_7 : decode cX11_step 7 = .ok (.invokevirtual 461, 3) := by decide +kernel
theorem dX11_step_10 : decode cX11_step 10 = .ok (.ifCond .eq 51, 3) := by decide +kernel
theorem dX11_step_13 : decode cX11_step 13 = .ok (.iload_n 2, 1) := by decide +kernel
theorem dX11_step_14 : decode cX11_step 14 = .ok (.i2l, 1) := by decide +kernel
theorem dX11_step_15 : decode cX11_step 15 = .ok (.lconst 0, 1) := by decide +kernel
theorem dX11_step_16 : decode cX11_step 16 = .ok (.aload_n 0, 1) := by decide +kernel
theorem dX11_step_17 : decode cX11_step 17 = .ok (.getfield 58, 3) := by decide +kernel
theorem dX11_step_20 : decode cX11_step 20 = .ok (.iload_n 1, 1) := by decide +kernel
theorem dX11_step_21 : decode cX11_step 21 = .ok (.iaload, 1) := by decide +kernel
theorem dX11_step_22 : decode cX11_step 22 = .ok (.iconst 1, 1) := by decide +kernel
theorem dX11_step_23 : decode cX11_step 23 = .ok (.isub, 1) := by decide +kernel
theorem dX11_step_24 : decode cX11_step 24 = .ok (.i2l, 1) := by decide +kernel
theorem dX11_step_25 : decode cX11_step 25 = .ok (.invokestatic 233, 3) := by decide +kernel
theorem dX11_step_28 : decode cX11_step 28 = .ok (.ifCond .eq 33, 3) := by decide +kernel
theorem dX11_step_31 : decode cX11_step 31 = .ok (.iload_n 3, 1) := by decide +kernel
theorem dX11_step_32 : decode cX11_step 32 = .ok (.i2l, 1) := by decide +kernel
theorem dX11_step_33 : decode cX11_step 33 = .ok (.lconst 0, 1) := by decide +kernel
theorem dX11_step_34 : decode cX11_step 34 = .ok (.ldc2_w 288, 3) := by decide +kernel
theorem dX11_step_37 : decode cX11_step 37 = .ok (.invokestatic 233, 3) := by decide +kernel
theorem dX11_step_40 : decode cX11_step 40 = .ok (.ifCond .eq 21, 3) := by decide +kernel
theorem dX11_step_43 : decode cX11_step 43 = .ok (.aload_n 0, 1) := by decide +kernel
theorem dX11_step_44 : decode cX11_step 44 = .ok (.getfield 55, 3) := by decide +kernel
theorem dX11_step_47 : decode cX11_step 47 = .ok (.iconst 3, 1) := by decide +kernel
theorem dX11_step_48 : decode cX11_step 48 = .ok (.bipush 16, 2) := by decide +kernel
theorem dX11_step_50 : decode cX11_step 50 = .ok (.iload_n 1, 1) := by decide +kernel
theorem dX11_step_51 : decode cX11_step 51 = .ok (.imul, 1) := by decide +kernel
theorem dX11_step_52 : decode cX11_step 52 = .ok (.iload_n 2, 1) := by decide +kernel
theorem dX11_step_53 : decode cX11_step 53 = .ok (.iadd, 1) := by decide +kernel
theorem dX11_step_54 : decode cX11_step 54 = .ok (.imul, 1) := by decide +kernel
theorem dX11_step_55 : decode cX11_step 55 = .ok (.iload_n 3, 1) := by decide +kernel
theorem dX11_step_56 : decode cX11_step 56 = .ok (.iadd, 1) := by decide +kernel
theorem dX11_step_57 : decode cX11_step 57 = .ok (.iaload, 1) := by decide +kernel
theorem dX11_step_58 : decode cX11_step 58 = .ok (.goto 6, 3) := by decide +kernel
theorem dX11_step_61 : decode cX11_step 61 = .ok (.ldc_w 411, 3) := by decide +kernel
theorem dX11_step_64 : decode cX11_step 64 = .ok (.ireturn, 1) := by decide +kernel
def f_Model_step (σ : Mem) (x1 : Int32) (x2 : Int32) (x3 : Int32) : Option (Int32 × Mem) :=
  (f_Model_isPlan (sI σ 565 0 (0 : Int32)) x1).bind fun q1 =>
  if q1 = (0 : Int32) then
    some ((-1000000 : Int32), (sI σ 565 0 (0 : Int32)))
  else
    if inb x1 5 then
      (f_Model_isIn (sI σ 565 0 (0 : Int32)) ((x2).toInt64) (0 : Int64) ((((mI (sI σ 565 0 (0 : Int32)) 577 x1.toNatClampNeg) - (1 : Int32))).toInt64)).bind fun q4 =>
      if q4 = (0 : Int32) then
        some ((-1000000 : Int32), (sI σ 565 0 (0 : Int32)))
      else
        (f_Model_isIn (sI σ 565 0 (0 : Int32)) ((x3).toInt64) (0 : Int64) (2 : Int64)).bind fun q6 =>
        if q6 = (0 : Int32) then
          some ((-1000000 : Int32), (sI σ 565 0 (0 : Int32)))
        else
          if inb (((3 : Int32) * (((16 : Int32) * x1) + x2)) + x3) 240 then
            some ((mI (sI σ 565 0 (0 : Int32)) 576 (((3 : Int32) * (((16 : Int32) * x1) + x2)) + x3).toNatClampNeg), (sI σ 565 0 (0 : Int32)))
          else none
    else none
set_option maxHeartbeats 4000000 in
set_option maxRecDepth 20000 in
theorem g_Model_step (X : Cx θ p s m args c cX11_step 4 RX11) (hr : meth.sig.returnType = some .int) (hlk : meth.locks = false)  {σ : Mem} {x1 : Int32} {x2 : Int32} {x3 : Int32} {r : Int32 × Mem}  (h : f_Model_step σ x1 x2 x3 = some r) : GB θ p l e 1 s m args below meth c 4 (some (.int r.1), r.2) 0 [(0, .ref (be θ + 565)), (1, .int x1), (2, .int x2), (3, .int x3)] [] σ := by
  unfold f_Model_step at h
  refine g_aload_n X dX11_step_0 rfl 0 rfl ?_
  refine g_iconst X dX11_step_1 (v := (0 : Int32)) ic_0 ?_
  refine g_putI X fl_RX11_112 dX11_step_2 kd_565 rfl rfl rfl ?_
  refine g_aload_n X dX11_step_5 rfl 0 rfl ?_
  refine g_iload_n X dX11_step_6 rfl 1 rfl ?_
  obtain ⟨q1, hq1, h⟩ := Option.bind_eq_some_iff.mp h
  refine g_cV X (c_Model_isPlan  hq1) lk_RX11_461 my_X11_isPlan (a := 565) (ci := 11) kd_565 (by decide) rfl (As := [.int x1]) (rest := []) rfl rfl (Nat.le_of_ble_eq_true rfl) ⟨(Nat.le_of_ble_eq_true rfl), (Nat.le_of_ble_eq_true rfl)⟩ ⟨(Nat.le_of_ble_eq_true rfl), (Nat.le_of_ble_eq_true rfl)⟩ dX11_step_7 (st' := [.int q1]) (σ' := (sI σ 565 0 (0 : Int32))) rfl rfl ?_
  refine g_if_eq (tgt := 61) X dX11_step_10 (by decide) (fun c2 => ?_) (fun c2 => ?_)
  · replace h := (if_pos c2).symm.trans h
    refine g_ldcw X cst_RX11_411 dX11_step_61 ?_
    exact g_iret X hr hlk dX11_step_64 (by cases h; rfl)
  · replace h := (if_neg c2).symm.trans h
    refine g_iload_n X dX11_step_13 rfl 2 rfl ?_
    refine g_i2l X dX11_step_14 (v := ((x2).toInt64)) rfl ?_
    refine g_lconst X dX11_step_15 (v := (0 : Int64)) rfl ?_
    refine g_aload_n X dX11_step_16 rfl 0 rfl ?_
    refine g_get X fl_RX11_58 dX11_step_17 kd_565 (v := .ref (be θ + 577)) rfl ?_
    refine g_iload_n X dX11_step_20 rfl 1 rfl ?_
    obtain ⟨g3, h⟩ := ite_some h
    refine g_iald X kd_577 ln_577 (inb_in g3) dX11_step_21 ?_
    refine g_iconst X dX11_step_22 (v := (1 : Int32)) ic_1 ?_
    refine g_isub X dX11_step_23 ?_
    refine g_i2l X dX11_step_24 (v := ((((mI (sI σ 565 0 (0 : Int32)) 577 x1.toNatClampNeg) - (1 : Int32))).toInt64)) rfl ?_
    obtain ⟨q4, hq4, h⟩ := Option.bind_eq_some_iff.mp h
    refine g_cS X (c_Model_isIn  hq4) lk_RX11_233 my_X11_isIn (As := [.long ((x2).toInt64), .long (0 : Int64), .long ((((mI (sI σ 565 0 (0 : Int32)) 577 x1.toNatClampNeg) - (1 : Int32))).toInt64)]) (rest := []) rfl rfl (Nat.le_of_ble_eq_true rfl) ⟨(Nat.le_of_ble_eq_true rfl), (Nat.le_of_ble_eq_true rfl)⟩ ⟨(Nat.le_of_ble_eq_true rfl), (Nat.le_of_ble_eq_true rfl)⟩ dX11_step_25 (st' := [.int q4]) (σ' := (sI σ 565 0 (0 : Int32))) rfl rfl ?_
    refine g_if_eq (tgt := 61) X dX11_step_28 (by decide) (fun c5 => ?_) (fun c5 => ?_)
    · replace h := (if_pos c5).symm.trans h
      refine g_ldcw X cst_RX11_411 dX11_step_61 ?_
      exact g_iret X hr hlk dX11_step_64 (by cases h; rfl)
    · replace h := (if_neg c5).symm.trans h
      refine g_iload_n X dX11_step_31 rfl 3 rfl ?_
      refine g_i2l X dX11_step_32 (v := ((x3).toInt64)) rfl ?_
      refine g_lconst X dX11_step_33 (v := (0 : Int64)) rfl ?_
      refine g_ldc2 X cst_RX11_288 dX11_step_34 ?_
      obtain ⟨q6, hq6, h⟩ := Option.bind_eq_some_iff.mp h
      refine g_cS X (c_Model_isIn  hq6) lk_RX11_233 my_X11_isIn (As := [.long ((x3).toInt64), .long (0 : Int64), .long (2 : Int64)]) (rest := []) rfl rfl (Nat.le_of_ble_eq_true rfl) ⟨(Nat.le_of_ble_eq_true rfl), (Nat.le_of_ble_eq_true rfl)⟩ ⟨(Nat.le_of_ble_eq_true rfl), (Nat.le_of_ble_eq_true rfl)⟩ dX11_step_37 (st' := [.int q6]) (σ' := (sI σ 565 0 (0 : Int32))) rfl rfl ?_
      refine g_if_eq (tgt := 61) X dX11_step_40 (by decide) (fun c7 => ?_) (fun c7 => ?_)
      · replace h := (if_pos c7).symm.trans h
        refine g_ldcw X cst_RX11_411 dX11_step_61 ?_
        exact g_iret X hr hlk dX11_step_64 (by cases h; rfl)
      · replace h := (if_neg c7).symm.trans h
        refine g_aload_n X dX11_step_43 rfl 0 rfl ?_
        refine g_get X fl_RX11_55 dX11_step_44 kd_565 (v := .ref (be θ + 576)) rfl ?_
        refine g_iconst X dX11_step_47 (v := (3 : Int32)) ic_3 ?_
        refine g_bipush X dX11_step_48 (v := (16 : Int32)) bp_16 ?_
        refine g_iload_n X dX11_step_50 rfl 1 rfl ?_
        refine g_imul X dX11_step_51 ?_
        refine g_iload_n X dX11_step_52 rfl 2 rfl ?_
        refine g_iadd X dX11_step_53 ?_
        refine g_imul X dX11_step_54 ?_
        refine g_iload_n X dX11_step_55 rfl 3 rfl ?_
        refine g_iadd X dX11_step_56 ?_
        obtain ⟨g8, h⟩ := ite_some h
        refine g_iald X kd_576 ln_576 (inb_in g8) dX11_step_57 ?_
        refine g_goto (tgt := 64) X dX11_step_58 (by decide) ?_
        exact g_iret X hr hlk dX11_step_64 (by cases h; rfl)
set_option maxHeartbeats 4000000 in
set_option maxRecDepth 20000 in
theorem c_Model_step {θ : Th} {l : Launch} {σ : Mem} {x1 : Int32} {x2 : Int32} {x3 : Int32} {r : Int32 × Mem}  (h : f_Model_step σ x1 x2 x3 = some r) : Cn θ l yX11_step cX11_step 4 (some .int) 1 0 0 [.ref (be θ + 565), .int x1, .int x2, .int x3] σ (some (.int r.1), r.2) :=
  Cn.of (by decide) (Nat.le_of_ble_eq_true rfl) (fun p e s m below meth c X hr hlk => g_Model_step X hr hlk  h)
theorem dX11_canStep_0 : decode cX11_canStep 0 = .ok (.aload_n 0, 1) := by decide +kernel
theorem dX11_canStep_1 : decode cX11_canStep 1 = .ok (.getfield 55, 3) := by decide +kernel
theorem dX11_canStep_4 : decode cX11_canStep 4 = .ok (.iload_n 2, 1) := by decide +kernel
theorem dX11_canStep_5 : decode cX11_canStep 5 = .ok (.iaload, 1) := by decide +kernel
theorem dX11_canStep_6 : decode cX11_canStep 6 = .ok (.iconst 4, 1) := by decide +kernel
theorem dX11_canStep_7 : decode cX11_canStep 7 = .ok (.if_icmp .ne 20, 3) := by decide +kernel
theorem dX11_canStep_10 : decode cX11_canStep 10 = .ok (.aload_n 1, 1) := by decide +kernel
theorem dX11_canStep_11 : decode cX11_canStep 11 = .ok (.sipush 130, 3) := by decide +kernel
theorem dX11_canStep_14 : decode cX11_canStep 14 = .ok (.iaload, 1) := by decide +kernel
theorem dX11_canStep_15 : decode cX11_canStep 15 = .ok (.sipush 9999, 3) := by decide +kernel
theorem dX11_canStep_18 : decode cX11_canStep 18 = .ok (.if_icmp .ge 7, 3) := by decide +kernel
theorem dX11_canStep_21 : decode cX11_canStep 21 = .ok (.iconst 1, 1) := by decide +kernel
theorem dX11_canStep_22 : decode cX11_canStep 22 = .ok (.goto 4, 3) := by decide +kernel
theorem dX11_canStep_25 : decode cX11_canStep 25 = .ok (.iconst 0, 1) := by decide +kernel
theorem dX11_canStep_26 : decode cX11_canStep 26 = .ok (.ireturn, 1) := by decide +kernel
theorem dX11_canStep_27 : decode cX11_canStep 27 = .ok (.aload_n 0, 1) := by decide +kernel
theorem dX11_canStep_28 : decode cX11_canStep 28 = .ok (.aload_n 1, 1) := by decide +kernel
theorem dX11_canStep_29 : decode cX11_canStep 29 = .ok (.aload_n 0, 1) := by decide +kernel
theorem dX11_canStep_30 : decode cX11_canStep 30 = .ok (.getfield 55, 3) := by decide +kernel
theorem dX11_canStep_33 : decode cX11_canStep 33 = .ok (.iload_n 2, 1) := by decide +kernel
theorem dX11_canStep_34 : decode cX11_canStep 34 = .ok (.iaload, 1) := by decide +kernel
theorem dX11_canStep_35 : decode cX11_canStep 35 = .ok (.aload_n 0, 1) := by decide +kernel
theorem dX11_canStep_36 : decode cX11_canStep 36 = .ok (.getfield 55, 3) := by decide +kernel
theorem dX11_canStep_39 : decode cX11_canStep 39 = .ok (.iload_n 2, 1) := by decide +kernel
theorem dX11_canStep_40 : decode cX11_canStep 40 = .ok (.iconst 1, 1) := by decide +kernel
theorem dX11_canStep_41 : decode cX11_canStep 41 = .ok (.iadd, 1) := by decide +kernel
theorem dX11_canStep_42 : decode cX11_canStep 42 = .ok (.iaload, 1) := by decide +kernel
theorem dX11_canStep_43 : decode cX11_canStep 43 = .ok (.aload_n 0, 1) := by decide +kernel
theorem dX11_canStep_44 : decode cX11_canStep 44 = .ok (.getfield 55, 3) := by decide +kernel
theorem dX11_canStep_47 : decode cX11_canStep 47 = .ok (.iload_n 2, 1) := by decide +kernel
theorem dX11_canStep_48 : decode cX11_canStep 48 = .ok (.iconst 2, 1) := by decide +kernel
theorem dX11_canStep_49 : decode cX11_canStep 49 = .ok (.iadd, 1) := by decide +kernel
theorem dX11_canStep_50 : decode cX11_canStep 50 = .ok (.iaload, 1) := by decide +kernel
theorem dX11_canStep_51 : decode cX11_canStep 51 = .ok (.invokevirtual 422, 3) := by decide +kernel
theorem dX11_canStep_54 : decode cX11_canStep 54 = .ok (.iconst (-1), 1) := by decide +kernel
theorem dX11_canStep_55 : decode cX11_canStep 55 = .ok (.if_icmp .ne 7, 3) := by decide +kernel
theorem dX11_canStep_58 : decode cX11_canStep 58 = .ok (.iconst 1, 1) := by decide +kernel
theorem dX11_canStep_59 : decode cX11_canStep 59 = .ok (.goto 4, 3) := by decide +kernel
theorem dX11_canStep_62 : decode cX11_canStep 62 = .ok (.iconst 0, 1) := by decide +kernel
theorem dX11_canStep_63 : decode cX11_canStep 63 = .ok (.ireturn, 1) := by decide +kernel
def f_Model_canStep (σ : Mem) (x1 : Nat) (x2 : Int32) : Option (Int32) :=
  if inb x2 240 then
    if (mI σ 576 x2.toNatClampNeg) = (4 : Int32) then
      if inb (130 : Int32) (ln x1) then
        if (9999 : Int32) ≤ (mI σ x1 (130 : Int32).toNatClampNeg) then
          some (0 : Int32)
        else
          some (1 : Int32)
      else none
    else
      if inb (x2 + (1 : Int32)) 240 then
        if inb (x2 + (2 : Int32)) 240 then
          (f_Model_stops σ x1 (mI σ 576 x2.toNatClampNeg) (mI σ 576 (x2 + (1 : Int32)).toNatClampNeg) (mI σ 576 (x2 + (2 : Int32)).toNatClampNeg)).bind fun q5 =>
          if q5 = (-1 : Int32) then
            some (1 : Int32)
          else
            some (0 : Int32)
        else none
      else none
  else none
set_option maxHeartbeats 4000000 in
set_option maxRecDepth 20000 in
theorem g_Model_canStep (X : Cx θ p s m args c cX11_canStep 3 RX11) (hr : meth.sig.returnType = some .boolean) (hlk : meth.locks = false)  {σ : Mem} {x1 : Nat} {x2 : Int32} {r : Int32} (h1 : kd x1 = 13) (h : f_Model_canStep σ x1 x2 = some r) : GB θ p l e 3 s m args below meth c 3 (some (.int r), σ) 0 [(0, .ref (be θ + 565)), (1, .ref (be θ + x1)), (2, .int x2)] [] σ := by
  unfold f_Model_canStep at h
  refine g_aload_n X dX11_canStep_0 rfl 0 rfl ?_
  refine g_get X fl_RX11_55 dX11_canStep_1 kd_565 (v := .ref (be θ + 576)) rfl ?_
  refine g_iload_n X dX11_canStep_4 rfl 2 rfl ?_
  obtain ⟨g1, h⟩ := ite_some h
  refine g_iald X kd_576 ln_576 (inb_in g1) dX11_canStep_5 ?_
  refine g_iconst X dX11_canStep_6 (v := (4 : Int32)) ic_4 ?_
  refine g_icmp_ne (tgt := 27) X dX11_canStep_7 (by decide) (fun c2 => ?_) (fun c2 => ?_)
  · replace h := (if_neg c2).symm.trans h
    refine g_aload_n X dX11_canStep_27 rfl 0 rfl ?_
    refine g_aload_n X dX11_canStep_28 rfl 1 rfl ?_
    refine g_aload_n X dX11_canStep_29 rfl 0 rfl ?_
    refine g_get X fl_RX11_55 dX11_canStep_30 kd_565 (v := .ref (be θ + 576)) rfl ?_
    refine g_iload_n X dX11_canStep_33 rfl 2 rfl ?_
    refine g_iald X kd_576 ln_576 (inb_in g1) dX11_canStep_34 ?_
    refine g_aload_n X dX11_canStep_35 rfl 0 rfl ?_
    refine g_get X fl_RX11_55 dX11_canStep_36 kd_565 (v := .ref (be θ + 576)) rfl ?_
    refine g_iload_n X dX11_canStep_39 rfl 2 rfl ?_
    refine g_iconst X dX11_canStep_40 (v := (1 : Int32)) ic_1 ?_
    refine g_iadd X dX11_canStep_41 ?_
    obtain ⟨g3, h⟩ := ite_some h
    refine g_iald X kd_576 ln_576 (inb_in g3) dX11_canStep_42 ?_
    refine g_aload_n X dX11_canStep_43 rfl 0 rfl ?_
    refine g_get X fl_RX11_55 dX11_canStep_44 kd_565 (v := .ref (be θ + 576)) rfl ?_
    refine g_iload_n X dX11_canStep_47 rfl 2 rfl ?_
    refine g_iconst X dX11_canStep_48 (v := (2 : Int32)) ic_2 ?_
    refine g_iadd X dX11_canStep_49 ?_
    obtain ⟨g4, h⟩ := ite_some h
    refine g_iald X kd_576 ln_576 (inb_in g4) dX11_canStep_50 ?_
    obtain ⟨q5, hq5, h⟩ := Option.bind_eq_some_iff.mp h
    refine g_cV X (c_Model_stops h1 hq5) lk_RX11_422 my_X11_stops (a := 565) (ci := 11) kd_565 (by decide) rfl (As := [.ref (be θ + x1), .int (mI σ 576 x2.toNatClampNeg), .int (mI σ 576 (x2 + (1 : Int32)).toNatClampNeg), .int (mI σ 576 (x2 + (2 : Int32)).toNatClampNeg)]) (rest := []) rfl rfl (Nat.le_of_ble_eq_true rfl) ⟨(Nat.le_of_ble_eq_true rfl), (Nat.le_of_ble_eq_true rfl)⟩ ⟨(Nat.le_of_ble_eq_true rfl), (Nat.le_of_ble_eq_true rfl)⟩ dX11_canStep_51 (st' := [.int q5]) (σ' := σ) rfl rfl ?_
    refine g_iconst X dX11_canStep_54 (v := (-1 : Int32)) ic_m1 ?_
    refine g_icmp_ne (tgt := 62) X dX11_canStep_55 (by decide) (fun c6 => ?_) (fun c6 => ?_)
    · replace h := (if_neg c6).symm.trans h
      refine g_iconst X dX11_canStep_62 (v := (0 : Int32)) ic_0 ?_
      exact g_zret X hr hlk bz0 dX11_canStep_63 (by cases h; rfl)
    · replace h := (if_pos c6).symm.trans h
      refine g_iconst X dX11_canStep_58 (v := (1 : Int32)) ic_1 ?_
      refine g_goto (tgt := 63) X dX11_canStep_59 (by decide) ?_
      exact g_zret X hr hlk bz1 dX11_canStep_63 (by cases h; rfl)
  · replace h := (if_pos c2).symm.trans h
    refine g_aload_n X dX11_canStep_10 rfl 1 rfl ?_
    refine g_sipush X dX11_canStep_11 (v := (130 : Int32)) sp_130 ?_
    obtain ⟨g7, h⟩ := ite_some h
    refine g_iald X h1 rfl (inb_in g7) dX11_canStep_14 ?_
    refine g_sipush X dX11_canStep_15 (v := (9999 : Int32)) sp_9999 ?_
    refine g_icmp_ge (tgt := 25) X dX11_canStep_18 (by decide) (fun c8 => ?_) (fun c8 => ?_)
    · replace h := (if_pos c8).symm.trans h
      refine g_iconst X dX11_canStep_25 (v := (0 : Int32)) ic_0 ?_
      exact g_zret X hr hlk bz0 dX11_canStep_26 (by cases h; rfl)
    · replace h := (if_neg c8).symm.trans h
      refine g_iconst X dX11_canStep_21 (v := (1 : Int32)) ic_1 ?_
      refine g_goto (tgt := 26) X dX11_canStep_22 (by decide) ?_
      exact g_zret X hr hlk bz1 dX11_canStep_26 (by cases h; rfl)
set_option maxHeartbeats 4000000 in
set_option maxRecDepth 20000 in
theorem c_Model_canStep {θ : Th} {l : Launch} {σ : Mem} {x1 : Nat} {x2 : Int32} {r : Int32} (h1 : kd x1 = 13) (h : f_Model_canStep σ x1 x2 = some r) : Cn θ l yX11_canStep cX11_canStep 3 (some .boolean) 3 0 0 [.ref (be θ + 565), .ref (be θ + x1), .int x2] σ (some (.int r), σ) :=
  Cn.of (by decide) (Nat.le_of_ble_eq_true rfl) (fun p e s m below meth c X hr hlk => g_Model_canStep X hr hlk h1 h)
theorem dX11_run_0 : decode cX11_run 0 = .ok (.aload_n 0, 1) := by decide +kernel
theorem dX11_run_1 : decode cX11_run 1 = .ok (.iconst 0, 1) := by decide +kernel
theorem dX11_run_2 : decode cX11_run 2 = .ok (.putfield 112, 3) := by decide +kernel
theorem dX11_run_5 : decode cX11_run 5 = .ok (.aload_n 0, 1) := by decide +kernel
theorem dX11_run_6 : decode cX11_run 6 = .ok (.iload_n 1, 1) := by decide +kernel
theorem dX11_run_7 : decode cX11_run 7 = .ok (.invokevirtual 461, 3) := by decide +kernel
theorem dX11_run_10 : decode cX11_run 10 = .ok (.ifCond .eq 20, 3) := by decide +kernel
theorem dX11_run_13 : decode cX11_run 13 = .ok (.aload_n 0, 1) := by decide +kernel
theorem dX11_run_14 : decode cX11_run 14 = .ok (.getfield 310, 3) := by decide +kernel
theorem dX11_run_17 : decode cX11_run 17 = .ok (.ifCond .eq 13, 3) := by decide +kernel
theorem dX11_run_20 : decode cX11_run 20 = .ok (.iload_n 2, 1) := by decide +kernel
theorem dX11_run_21 : decode cX11_run 21 = .ok (.i2l, 1) := by decide +kernel
theorem dX11_run_22 : decode cX11_run 22 = .ok (.lconst 0, 1) := by decide +kernel
theorem dX11_run_23 : decode cX11_run 23 = .ok (.lconst 1, 1) := by decide +kernel
theorem dX11_run_24 : decode cX11_run 24 = .ok (.invokestatic 233, 3) := by decide +kernel
theorem dX11_run_27 : decode cX11_run 27 = .ok (.ifCond .ne 7, 3) := by decide +kernel
theorem dX11_run_30 : decode cX11_run 30 = .ok (.ldc_w 411, 3) := by decide +kernel
theorem dX11_run_33 : decode cX11_run 33 = .ok (.ireturn, 1) := by decide +kernel
theorem dX11_run_34 : decode cX11_run 34 = .ok (.aload_n 0, 1) := by decide +kernel
theorem dX11_run_35 : decode cX11_run 35 = .ok (.getfield 61, 3) := by decide +kernel
theorem dX11_run_38 : decode cX11_run 38 = .ok (.aload_n 0, 1) := by decide +kernel
theorem dX11_run_39 : decode cX11_run 39 = .ok (.getfield 64, 3) := by decide +kernel
theorem dX11_run_42 : decode cX11_run 42 = .ok (.invokestatic 464, 3) := by decide +kernel
theorem dX11_run_45 : decode cX11_run 45 = .ok (.iconst 0, 1) := by decide +kernel
theorem dX11_run_46 : decode cX11_run 46 = .ok (.istore_n 3, 1) := by decide +kernel
theorem dX11_run_47 : decode cX11_run 47 = .ok (.iconst 0, 1) := by decide +kernel
theorem dX11_run_48 : decode cX11_run 48 = .ok (.istore 4, 2) := by decide +kernel
theorem dX11_run_50 : decode cX11_run 50 = .ok (.iload_n 3, 1) := by decide +kernel
theorem dX11_run_51 : decode cX11_run 51 = .ok (.aload_n 0, 1) := by decide +kernel
theorem dX11_run_52 : decode cX11_run 52 = .ok (.getfield 58, 3) := by decide +kernel
theorem dX11_run_55 : decode cX11_run 55 = .ok (.iload_n 1, 1) := by decide +kernel
theorem dX11_run_56 : decode cX11_run 56 = .ok (.iaload, 1) := by decide +kernel
theorem dX11_run_57 : decode cX11_run 57 = .ok (.if_icmp .ge 95, 3) := by decide +kernel
theorem dX11_run_60 : decode cX11_run 60 = .ok (.aload_n 0, 1) := by decide +kernel
theorem dX11_run_61 : decode cX11_run 61 = .ok (.aload_n 0, 1) := by decide +kernel
theorem dX11_run_62 : decode cX11_run 62 = .ok (.getfield 64, 3) := by decide +kernel
theorem dX11_run_65 : decode cX11_run 65 = .ok (.iconst 3, 1) := by decide +kernel
theorem dX11_run_66 : decode cX11_run 66 = .ok (.bipush 16, 2) := by decide +kernel
theorem dX11_run_68 : decode cX11_run 68 = .ok (.iload_n 1, 1) := by decide +kernel
theorem dX11_run_69 : decode cX11_run 69 = .ok (.imul, 1) := by decide +kernel
theorem dX11_run_70 : decode cX11_run 70 = .ok (.iload_n 3, 1) := by decide +kernel
theorem dX11_run_71 : decode cX11_run 71 = .ok (.iadd, 1) := by decide +kernel
theorem dX11_run_72 : decode cX11_run 72 = .ok (.imul, 1) := by decide +kernel
theorem dX11_run_73 : decode cX11_run 73 = .ok (.invokevirtual 468, 3) := by decide +kernel
theorem dX11_run_76 : decode cX11_run 76 = .ok (.ifCond .eq 76, 3) := by decide +kernel
theorem dX11_run_79 : decode cX11_run 79 = .ok (.iconst 3, 1) := by decide +kernel
theorem dX11_run_80 : decode cX11_run 80 = .ok (.bipush 16, 2) := by decide +kernel
theorem dX11_run_82 : decode cX11_run 82 = .ok (.iload_n 1, 1) := by decide +kernel
theorem dX11_run_83 : decode cX11_run 83 = .ok (.imul, 1) := by decide +kernel
theorem dX11_run_84 : decode cX11_run 84 = .ok (.iload_n 3, 1) := by decide +kernel
theorem dX11_run_85 : decode cX11_run 85 = .ok (.iadd, 1) := by decide +kernel
theorem dX11_run_86 : decode cX11_run 86 = .ok (.imul, 1) := by decide +kernel
theorem dX11_run_87 : decode cX11_run 87 = .ok (.istore 5, 2) := by decide +kernel
theorem dX11_run_89 : decode cX11_run 89 = .ok (.aload_n 0, 1) := by decide +kernel
theorem dX11_run_90 : decode cX11_run 90 = .ok (.getfield 55, 3) := by decide +kernel
theorem dX11_run_93 : decode cX11_run 93 = .ok (.iload 5, 2) := by decide +kernel
theorem dX11_run_95 : decode cX11_run 95 = .ok (.iaload, 1) := by decide +kernel
theorem dX11_run_96 : decode cX11_run 96 = .ok (.iconst 4, 1) := by decide +kernel
theorem dX11_run_97 : decode cX11_run 97 = .ok (.if_icmp .ne 14, 3) := by decide +kernel
theorem dX11_run_100 : decode cX11_run 100 = .ok (.aload_n 0, 1) := by decide +kernel
theorem dX11_run_101 : decode cX11_run 101 = .ok (.aload_n 0, 1) := by decide +kernel
theorem dX11_run_102 : decode cX11_run 102 = .ok (.getfield 64, 3) := by decide +kernel
theorem dX11_run_105 : decode cX11_run 105 = .ok (.invokevirtual 402, 3) := by decide +kernel
theorem dX11_run_108 : decode cX11_run 108 = .ok (.goto 38, 3) := by decide +kernel
theorem dX11_run_111 : decode cX11_run 111 = .ok (.aload_n 0, 1) := by decide +kernel
theorem dX11_run_112 : decode cX11_run 112 = .ok (.aload_n 0, 1) := by decide +kernel
theorem dX11_run_113 : decode cX11_run 113 = .ok (.getfield 64, 3) := by decide +kernel
theorem dX11_run_116 : decode cX11_run 116 = .ok (.aload_n 0, 1) := by decide +kernel
theorem dX11_run_117 : decode cX11_run 117 = .ok (.getfield 55, 3) := by decide +kernel
theorem dX11_run_120 : decode cX11_run 120 = .ok (.iload 5, 2) := by decide +kernel
theorem dX11_run_122 : decode cX11_run 122 = .ok (.iaload, 1) := by decide +kernel
theorem dX11_run_123 : decode cX11_run 123 = .ok (.aload_n 0, 1) := by decide +kernel
theorem dX11_run_124 : decode cX11_run 124 = .ok (.getfield 55, 3) := by decide +kernel
theorem dX11_run_127 : decode cX11_run 127 = .ok (.iload 5, 2) := by decide +kernel
theorem dX11_run_129 : decode cX11_run 129 = .ok (.iconst 1, 1) := by decide +kernel
theorem dX11_run_130 : decode cX11_run 130 = .ok (.iadd, 1) := by decide +kernel
theorem dX11_run_131 : decode cX11_run 131 = .ok (.iaload, 1) := by decide +kernel
theorem dX11_run_132 : decode cX11_run 132 = .ok (.aload_n 0, 1) := by decide +kernel
theorem dX11_run_133 : decode cX11_run 133 = .ok (.getfield 55, 3) := by decide +kernel
theorem dX11_run_136 : decode cX11_run 136 = .ok (.iload 5, 2) := by decide +kernel
theorem dX11_run_138 : decode cX11_run 138 = .ok (.iconst 2, 1) := by decide +kernel
theorem dX11_run_139 : decode cX11_run 139 = .ok (.iadd, 1) := by decide +kernel
theorem dX11_run_140 : decode cX11_run 140 = .ok (.iaload, 1) := by decide +kernel
theorem dX11_run_141 : decode cX11_run 141 = .ok (.invokevirtual 432, 3) := by decide +kernel
theorem dX11_run_144 : decode cX11_run 144 = .ok (.istore 4, 2) := by decide +kernel
theorem dX11_run_146 : decode cX11_run 146 = .ok (.iinc 3 1, 3) := by decide +kernel
theorem dX11_run_149 : decode cX11_run 149 = .ok (.goto (-99), 3) := by decide +kernel
theorem dX11_run_152 : decode cX11_run 152 = .ok (.iload_n 2, 1) := by decide +kernel
theorem dX11_run_153 : decode cX11_run 153 = .ok (.iconst 1, 1) := by decide +kernel
theorem dX11_run_154 : decode cX11_run 154 = .ok (.if_icmp .ne 11, 3) := by decide +kernel
theorem dX11_run_157 : decode cX11_run 157 = .ok (.aload_n 0, 1) := by decide +kernel
theorem dX11_run_158 : decode cX11_run 158 = .ok (.getfield 64, 3) := by decide +kernel
theorem dX11_run_161 : decode cX11_run 161 = .ok (.invokestatic 471, 3) := by decide +kernel
theorem dX11_run_164 : decode cX11_run 164 = .ok (.ireturn, 1) := by decide +kernel
theorem dX11_run_165 : decode cX11_run 165 = .ok (.iload_n 3, 1) := by decide +kernel
theorem dX11_run_166 : decode cX11_run 166 = .ok (.aload_n 0, 1) := by decide +kernel
theorem dX11_run_167 : decode cX11_run 167 = .ok (.getfield 58, 3) := by decide +kernel
theorem dX11_run_170 : decode cX11_run 170 = .ok (.iload_n 1, 1) := by decide +kernel
theorem dX11_run_171 : decode cX11_run 171 = .ok (.iaload, 1) := by decide +kernel
theorem dX11_run_172 : decode cX11_run 172 = .ok (.if_icmp .ne 7, 3) := by decide +kernel
theorem dX11_run_175 : decode cX11_run 175 = .ok (.iconst (-1), 1) := by decide +kernel
theorem dX11_run_176 : decode cX11_run 176 = .ok (.goto 4, 3) := by decide +kernel
theorem dX11_run_179 : decode cX11_run 179 = .ok (.iload_n 3, 1) := by decide +kernel
theorem dX11_run_180 : decode cX11_run 180 = .ok (.ireturn, 1) := by decide +kernel
def f_Model_run_L50 (x1 : Int32) (x2 : Int32) (a : Mem × Int32) : Option ((Mem × Int32) ⊕ (Mem × Int32)) :=
  @Prod.casesOn (Mem) (Int32) (fun _ => Option ((Mem × Int32) ⊕ (Mem × Int32))) a fun τ z3 =>
  if inb x1 5 then
    if (mI τ 577 x1.toNatClampNeg) ≤ z3 then
      some (.inr (τ, z3))
    else
      (f_Model_canStep τ 579 ((3 : Int32) * (((16 : Int32) * x1) + z3))).bind fun q9 =>
      if q9 = (0 : Int32) then
        some (.inr (τ, z3))
      else
        if inb ((3 : Int32) * (((16 : Int32) * x1) + z3)) 240 then
          if (mI τ 576 ((3 : Int32) * (((16 : Int32) * x1) + z3)).toNatClampNeg) = (4 : Int32) then
            (f_Model_passes τ 579).bind fun q16 =>
            some (.inl (q16, (z3 + (1 : Int32))))
          else
            if inb (((3 : Int32) * (((16 : Int32) * x1) + z3)) + (1 : Int32)) 240 then
              if inb (((3 : Int32) * (((16 : Int32) * x1) + z3)) + (2 : Int32)) 240 then
                (f_Model_does τ 579 (mI τ 576 ((3 : Int32) * (((16 : Int32) * x1) + z3)).toNatClampNeg) (mI τ 576 (((3 : Int32) * (((16 : Int32) * x1) + z3)) + (1 : Int32)).toNatClampNeg) (mI τ 576 (((3 : Int32) * (((16 : Int32) * x1) + z3)) + (2 : Int32)).toNatClampNeg)).bind fun q15 =>
                some (.inl (q15.2, (z3 + (1 : Int32))))
              else none
            else none
        else none
  else none
def f_Model_run_J152 (σ : Mem) (x1 : Int32) (x2 : Int32) (y3 : Int32) : Option (Int32 × Mem) :=
  if x2 = (1 : Int32) then
    (f_Model_allDue σ 579).bind fun q21 =>
    some (q21, σ)
  else
    if inb x1 5 then
      if y3 = (mI σ 577 x1.toNatClampNeg) then
        some ((-1 : Int32), σ)
      else
        some (y3, σ)
    else none
def f_Model_run (σ : Mem) (x1 : Int32) (x2 : Int32) : Option (Int32 × Mem) :=
  (f_Model_isPlan (sI σ 565 0 (0 : Int32)) x1).bind fun q1 =>
  if q1 = (0 : Int32) then
    some ((-1000000 : Int32), (sI σ 565 0 (0 : Int32)))
  else
    if (mI (sI σ 565 0 (0 : Int32)) 565 27) = (0 : Int32) then
      some ((-1000000 : Int32), (sI σ 565 0 (0 : Int32)))
    else
      (f_Model_isIn (sI σ 565 0 (0 : Int32)) ((x2).toInt64) (0 : Int64) (1 : Int64)).bind fun q4 =>
      if q4 = (0 : Int32) then
        some ((-1000000 : Int32), (sI σ 565 0 (0 : Int32)))
      else
        (f_Model_copy (sI σ 565 0 (0 : Int32)) 578 579).bind fun q6 =>
        (loopF (f_Model_run_L50 x1 x2) FU (q6, (0 : Int32))).bind fun q17 =>
        @Prod.casesOn (Mem) (Int32) (fun _ => Option (Int32 × Mem)) q17 fun τ17 w17_3 =>
        f_Model_run_J152 τ17 x1 x2 w17_3
set_option maxHeartbeats 4000000 in
set_option maxRecDepth 20000 in
theorem gs_Model_run_L50 (X : Cx θ p s m args c cX11_run 6 RX11) (hr : meth.sig.returnType = some .int) (hlk : meth.locks = false)  {x1 : Int32} {x2 : Int32} {r : Int32 × Mem}  (τ : Mem) (z3 : Int32) (x : (Mem × Int32) ⊕ (Mem × Int32)) (h : f_Model_run_L50 x1 x2 (τ, z3) = some x) (hk : Sum.elim (fun a => @Prod.casesOn (Mem) (Int32) (fun _ => Prop) a fun τ z3 => GB θ p l e 66 s m args below meth c 6 (some (.int r.1), r.2) 50 [(0, .ref (be θ + 565)), (1, .int x1), (2, .int x2), (3, .int z3)] [] τ) (fun ex => @Prod.casesOn (Mem) (Int32) (fun _ => Prop) ex fun τ w_3 => GB θ p l e 66 s m args below meth c 6 (some (.int r.1), r.2) 152 [(0, .ref (be θ + 565)), (1, .int x1), (2, .int x2), (3, .int w_3)] [] τ) x) : GB θ p l e 66 s m args below meth c 6 (some (.int r.1), r.2) 50 [(0, .ref (be θ + 565)), (1, .int x1), (2, .int x2), (3, .int z3)] [] τ := by
  unfold f_Model_run_L50 at h
  dsimp only at h
  refine g_iload_n X dX11_run_50 rfl 3 rfl ?_
  refine g_aload_n X dX11_run_51 rfl 0 rfl ?_
  refine g_get X fl_RX11_58 dX11_run_52 kd_565 (v := .ref (be θ + 577)) rfl ?_
  refine g_iload_n X dX11_run_55 rfl 1 rfl ?_
  obtain ⟨g7, h⟩ := ite_some h
  refine g_iald X kd_577 ln_577 (inb_in g7) dX11_run_56 ?_
  refine g_icmp_ge (tgt := 152) X dX11_run_57 (by decide) (fun c8 => ?_) (fun c8 => ?_)
  · replace h := (if_pos c8).symm.trans h
    have hk := inr_hk h hk
    exact g_sub (lv' := [(0, .ref (be θ + 565)), (1, .int x1), (2, .int x2), (3, .int z3)]) [0, 1, 2, 3] rfl hk
  · replace h := (if_neg c8).symm.trans h
    refine g_aload_n X dX11_run_60 rfl 0 rfl ?_
    refine g_aload_n X dX11_run_61 rfl 0 rfl ?_
    refine g_get X fl_RX11_64 dX11_run_62 kd_565 (v := .ref (be θ + 579)) rfl ?_
    refine g_iconst X dX11_run_65 (v := (3 : Int32)) ic_3 ?_
    refine g_bipush X dX11_run_66 (v := (16 : Int32)) bp_16 ?_
    refine g_iload_n X dX11_run_68 rfl 1 rfl ?_
    refine g_imul X dX11_run_69 ?_
    refine g_iload_n X dX11_run_70 rfl 3 rfl ?_
    refine g_iadd X dX11_run_71 ?_
    refine g_imul X dX11_run_72 ?_
    obtain ⟨q9, hq9, h⟩ := Option.bind_eq_some_iff.mp h
    refine g_cV X (c_Model_canStep kd_579 hq9) lk_RX11_468 my_X11_canStep (a := 565) (ci := 11) kd_565 (by decide) rfl (As := [.ref (be θ + 579), .int ((3 : Int32) * (((16 : Int32) * x1) + z3))]) (rest := []) rfl rfl (Nat.le_of_ble_eq_true rfl) ⟨(Nat.le_of_ble_eq_true rfl), (Nat.le_of_ble_eq_true rfl)⟩ ⟨(Nat.le_of_ble_eq_true rfl), (Nat.le_of_ble_eq_true rfl)⟩ dX11_run_73 (st' := [.int q9]) (σ' := τ) rfl rfl ?_
    refine g_if_eq (tgt := 152) X dX11_run_76 (by decide) (fun c10 => ?_) (fun c10 => ?_)
    · replace h := (if_pos c10).symm.trans h
      have hk := inr_hk h hk
      exact g_sub (lv' := [(0, .ref (be θ + 565)), (1, .int x1), (2, .int x2), (3, .int z3)]) [0, 1, 2, 3] rfl hk
    · replace h := (if_neg c10).symm.trans h
      refine g_iconst X dX11_run_79 (v := (3 : Int32)) ic_3 ?_
      refine g_bipush X dX11_run_80 (v := (16 : Int32)) bp_16 ?_
      refine g_iload_n X dX11_run_82 rfl 1 rfl ?_
      refine g_imul X dX11_run_83 ?_
      refine g_iload_n X dX11_run_84 rfl 3 rfl ?_
      refine g_iadd X dX11_run_85 ?_
      refine g_imul X dX11_run_86 ?_
      refine g_istore X dX11_run_87 (by decide) (lv' := [(5, .int ((3 : Int32) * (((16 : Int32) * x1) + z3))), (0, .ref (be θ + 565)), (1, .int x1), (2, .int x2), (3, .int z3)]) rfl ?_
      refine g_aload_n X dX11_run_89 rfl 1 rfl ?_
      refine g_get X fl_RX11_55 dX11_run_90 kd_565 (v := .ref (be θ + 576)) rfl ?_
      refine g_iload X dX11_run_93 0 rfl ?_
      obtain ⟨g11, h⟩ := ite_some h
      refine g_iald X kd_576 ln_576 (inb_in g11) dX11_run_95 ?_
      refine g_iconst X dX11_run_96 (v := (4 : Int32)) ic_4 ?_
      refine g_icmp_ne (tgt := 111) X dX11_run_97 (by decide) (fun c12 => ?_) (fun c12 => ?_)
      · replace h := (if_neg c12).symm.trans h
        refine g_aload_n X dX11_run_111 rfl 1 rfl ?_
        refine g_aload_n X dX11_run_112 rfl 1 rfl ?_
        refine g_get X fl_RX11_64 dX11_run_113 kd_565 (v := .ref (be θ + 579)) rfl ?_
        refine g_aload_n X dX11_run_116 rfl 1 rfl ?_
        refine g_get X fl_RX11_55 dX11_run_117 kd_565 (v := .ref (be θ + 576)) rfl ?_
        refine g_iload X dX11_run_120 0 rfl ?_
        refine g_iald X kd_576 ln_576 (inb_in g11) dX11_run_122 ?_
        refine g_aload_n X dX11_run_123 rfl 1 rfl ?_
        refine g_get X fl_RX11_55 dX11_run_124 kd_565 (v := .ref (be θ + 576)) rfl ?_
        refine g_iload X dX11_run_127 0 rfl ?_
        refine g_iconst X dX11_run_129 (v := (1 : Int32)) ic_1 ?_
        refine g_iadd X dX11_run_130 ?_
        obtain ⟨g13, h⟩ := ite_some h
        refine g_iald X kd_576 ln_576 (inb_in g13) dX11_run_131 ?_
        refine g_aload_n X dX11_run_132 rfl 1 rfl ?_
        refine g_get X fl_RX11_55 dX11_run_133 kd_565 (v := .ref (be θ + 576)) rfl ?_
        refine g_iload X dX11_run_136 0 rfl ?_
        refine g_iconst X dX11_run_138 (v := (2 : Int32)) ic_2 ?_
        refine g_iadd X dX11_run_139 ?_
        obtain ⟨g14, h⟩ := ite_some h
        refine g_iald X kd_576 ln_576 (inb_in g14) dX11_run_140 ?_
        obtain ⟨q15, hq15, h⟩ := Option.bind_eq_some_iff.mp h
        refine g_cV X (c_Model_does kd_579 hq15) lk_RX11_432 my_X11_does (a := 565) (ci := 11) kd_565 (by decide) rfl (As := [.ref (be θ + 579), .int (mI τ 576 ((3 : Int32) * (((16 : Int32) * x1) + z3)).toNatClampNeg), .int (mI τ 576 (((3 : Int32) * (((16 : Int32) * x1) + z3)) + (1 : Int32)).toNatClampNeg), .int (mI τ 576 (((3 : Int32) * (((16 : Int32) * x1) + z3)) + (2 : Int32)).toNatClampNeg)]) (rest := []) rfl rfl (Nat.le_of_ble_eq_true rfl) ⟨(Nat.le_of_ble_eq_true rfl), (Nat.le_of_ble_eq_true rfl)⟩ ⟨(Nat.le_of_ble_eq_true rfl), (Nat.le_of_ble_eq_true rfl)⟩ dX11_run_141 (st' := [.int q15.1]) (σ' := q15.2) rfl rfl ?_
        refine g_istore X dX11_run_144 (by decide) (lv' := [(4, .int q15.1), (5, .int ((3 : Int32) * (((16 : Int32) * x1) + z3))), (0, .ref (be θ + 565)), (1, .int x1), (2, .int x2), (3, .int z3)]) rfl ?_
        refine g_iinc X dX11_run_146 (kq := 5) rfl (congrArg (HAdd.hAdd _) ic_1) (by decide) (lv' := [(3, .int (z3 + (1 : Int32))), (4, .int q15.1), (5, .int ((3 : Int32) * (((16 : Int32) * x1) + z3))), (0, .ref (be θ + 565)), (1, .int x1), (2, .int x2)]) rfl ?_
        refine g_goto (tgt := 50) X dX11_run_149 (by decide) ?_
        have hk := inl_hk h hk
        exact g_sub (lv' := [(0, .ref (be θ + 565)), (1, .int x1), (2, .int x2), (3, .int (z3 + (1 : Int32)))]) [3, 4, 5, 0] rfl hk
      · replace h := (if_pos c12).symm.trans h
        refine g_aload_n X dX11_run_100 rfl 1 rfl ?_
        refine g_aload_n X dX11_run_101 rfl 1 rfl ?_
        refine g_get X fl_RX11_64 dX11_run_102 kd_565 (v := .ref (be θ + 579)) rfl ?_
        obtain ⟨q16, hq16, h⟩ := Option.bind_eq_some_iff.mp h
        refine g_cV X (c_Model_passes kd_579 hq16) lk_RX11_402 my_X11_passes (a := 565) (ci := 11) kd_565 (by decide) rfl (As := [.ref (be θ + 579)]) (rest := []) rfl rfl (Nat.le_of_ble_eq_true rfl) ⟨(Nat.le_of_ble_eq_true rfl), (Nat.le_of_ble_eq_true rfl)⟩ ⟨(Nat.le_of_ble_eq_true rfl), (Nat.le_of_ble_eq_true rfl)⟩ dX11_run_105 (st' := []) (σ' := q16) rfl rfl ?_
        refine g_goto (tgt := 146) X dX11_run_108 (by decide) ?_
        refine g_iinc X dX11_run_146 (kq := 4) rfl (congrArg (HAdd.hAdd _) ic_1) (by decide) (lv' := [(3, .int (z3 + (1 : Int32))), (5, .int ((3 : Int32) * (((16 : Int32) * x1) + z3))), (0, .ref (be θ + 565)), (1, .int x1), (2, .int x2)]) rfl ?_
        refine g_goto (tgt := 50) X dX11_run_149 (by decide) ?_
        have hk := inl_hk h hk
        exact g_sub (lv' := [(0, .ref (be θ + 565)), (1, .int x1), (2, .int x2), (3, .int (z3 + (1 : Int32)))]) [2, 3, 4, 0] rfl hk
set_option maxHeartbeats 4000000 in
set_option maxRecDepth 20000 in
theorem gl_Model_run_L50 (X : Cx θ p s m args c cX11_run 6 RX11) (hr : meth.sig.returnType = some .int) (hlk : meth.locks = false)  {x1 : Int32} {x2 : Int32} {r : Int32 × Mem}  (n : Nat) (a : Mem × Int32) (b : Mem × Int32) (h : loopF (f_Model_run_L50 x1 x2) n a = some b) (hk : (fun ex => @Prod.casesOn (Mem) (Int32) (fun _ => Prop) ex fun τ w_3 => GB θ p l e 66 s m args below meth c 6 (some (.int r.1), r.2) 152 [(0, .ref (be θ + 565)), (1, .int x1), (2, .int x2), (3, .int w_3)] [] τ) b) : (fun a => @Prod.casesOn (Mem) (Int32) (fun _ => Prop) a fun τ z3 => GB θ p l e 66 s m args below meth c 6 (some (.int r.1), r.2) 50 [(0, .ref (be θ + 565)), (1, .int x1), (2, .int x2), (3, .int z3)] [] τ) a :=
  loopF_by (P := (fun a => @Prod.casesOn (Mem) (Int32) (fun _ => Prop) a fun τ z3 => GB θ p l e 66 s m args below meth c 6 (some (.int r.1), r.2) 50 [(0, .ref (be θ + 565)), (1, .int x1), (2, .int x2), (3, .int z3)] [] τ)) (K := (fun ex => @Prod.casesOn (Mem) (Int32) (fun _ => Prop) ex fun τ w_3 => GB θ p l e 66 s m args below meth c 6 (some (.int r.1), r.2) 152 [(0, .ref (be θ + 565)), (1, .int x1), (2, .int x2), (3, .int w_3)] [] τ)) (fun a x h hk => by obtain ⟨τ, z3⟩ := a; exact gs_Model_run_L50 X hr hlk   τ z3 x h hk) n a b h hk
set_option maxHeartbeats 4000000 in
set_option maxRecDepth 20000 in
theorem g_Model_run_J152 (X : Cx θ p s m args c cX11_run 6 RX11) (hr : meth.sig.returnType = some .int) (hlk : meth.locks = false)  {σ : Mem} {x1 : Int32} {x2 : Int32} {y3 : Int32} {r : Int32 × Mem}  (h : f_Model_run_J152 σ x1 x2 y3 = some r) : GB θ p l e 66 s m args below meth c 6 (some (.int r.1), r.2) 152 [(0, .ref (be θ + 565)), (1, .int x1), (2, .int x2), (3, .int y3)] [] σ := by
  unfold f_Model_run_J152 at h
  refine g_iload_n X dX11_run_152 rfl 2 rfl ?_
  refine g_iconst X dX11_run_153 (v := (1 : Int32)) ic_1 ?_
  refine g_icmp_ne (tgt := 165) X dX11_run_154 (by decide) (fun c18 => ?_) (fun c18 => ?_)
  · replace h := (if_neg c18).symm.trans h
    refine g_iload_n X dX11_run_165 rfl 3 rfl ?_
    refine g_aload_n X dX11_run_166 rfl 0 rfl ?_
    refine g_get X fl_RX11_58 dX11_run_167 kd_565 (v := .ref (be θ + 577)) rfl ?_
    refine g_iload_n X dX11_run_170 rfl 1 rfl ?_
    obtain ⟨g19, h⟩ := ite_some h
    refine g_iald X kd_577 ln_577 (inb_in g19) dX11_run_171 ?_
    refine g_icmp_ne (tgt := 179) X dX11_run_172 (by decide) (fun c20 => ?_) (fun c20 => ?_)
    · replace h := (if_neg c20).symm.trans h
      refine g_iload_n X dX11_run_179 rfl 3 rfl ?_
      exact g_iret X hr hlk dX11_run_180 (by cases h; rfl)
    · replace h := (if_pos c20).symm.trans h
      refine g_iconst X dX11_run_175 (v := (-1 : Int32)) ic_m1 ?_
      refine g_goto (tgt := 180) X dX11_run_176 (by decide) ?_
      exact g_iret X hr hlk dX11_run_180 (by cases h; rfl)
  · replace h := (if_pos c18).symm.trans h
    refine g_aload_n X dX11_run_157 rfl 0 rfl ?_
    refine g_get X fl_RX11_64 dX11_run_158 kd_565 (v := .ref (be θ + 579)) rfl ?_
    obtain ⟨q21, hq21, h⟩ := Option.bind_eq_some_iff.mp h
    refine g_cS X (c_Model_allDue kd_579 hq21) lk_RX11_471 my_X11_allDue (As := [.ref (be θ + 579)]) (rest := []) rfl rfl (Nat.le_of_ble_eq_true rfl) ⟨(Nat.le_of_ble_eq_true rfl), (Nat.le_of_ble_eq_true rfl)⟩ ⟨(Nat.le_of_ble_eq_true rfl), (Nat.le_of_ble_eq_true rfl)⟩ dX11_run_161 (st' := [.int q21]) (σ' := σ) rfl rfl ?_
    exact g_iret X hr hlk dX11_run_164 (by cases h; rfl)
set_option maxHeartbeats 4000000 in
set_option maxRecDepth 20000 in
theorem g_Model_run (X : Cx θ p s m args c cX11_run 6 RX11) (hr : meth.sig.returnType = some .int) (hlk : meth.locks = false)  {σ : Mem} {x1 : Int32} {x2 : Int32} {r : Int32 × Mem}  (h : f_Model_run σ x1 x2 = some r) : GB θ p l e 66 s m args below meth c 6 (some (.int r.1), r.2) 0 [(0, .ref (be θ + 565)), (1, .int x1), (2, .int x2)] [] σ := by
  unfold f_Model_run at h
  refine g_aload_n X dX11_run_0 rfl 0 rfl ?_
  refine g_iconst X dX11_run_1 (v := (0 : Int32)) ic_0 ?_
  refine g_putI X fl_RX11_112 dX11_run_2 kd_565 rfl rfl rfl ?_
  refine g_aload_n X dX11_run_5 rfl 0 rfl ?_
  refine g_iload_n X dX11_run_6 rfl 1 rfl ?_
  obtain ⟨q1, hq1, h⟩ := Option.bind_eq_some_iff.mp h
  refine g_cV X (c_Model_isPlan  hq1) lk_RX11_461 my_X11_isPlan (a := 565) (ci := 11) kd_565 (by decide) rfl (As := [.int x1]) (rest := []) rfl rfl (Nat.le_of_ble_eq_true rfl) ⟨(Nat.le_of_ble_eq_true rfl), (Nat.le_of_ble_eq_true rfl)⟩ ⟨(Nat.le_of_ble_eq_true rfl), (Nat.le_of_ble_eq_true rfl)⟩ dX11_run_7 (st' := [.int q1]) (σ' := (sI σ 565 0 (0 : Int32))) rfl rfl ?_
  refine g_if_eq (tgt := 30) X dX11_run_10 (by decide) (fun c2 => ?_) (fun c2 => ?_)
  · replace h := (if_pos c2).symm.trans h
    refine g_ldcw X cst_RX11_411 dX11_run_30 ?_
    exact g_iret X hr hlk dX11_run_33 (by cases h; rfl)
  · replace h := (if_neg c2).symm.trans h
    refine g_aload_n X dX11_run_13 rfl 0 rfl ?_
    refine g_get X fl_RX11_310 dX11_run_14 kd_565 (v := .int (mI (sI σ 565 0 (0 : Int32)) 565 27)) rfl ?_
    refine g_if_eq (tgt := 30) X dX11_run_17 (by decide) (fun c3 => ?_) (fun c3 => ?_)
    · replace h := (if_pos c3).symm.trans h
      refine g_ldcw X cst_RX11_411 dX11_run_30 ?_
      exact g_iret X hr hlk dX11_run_33 (by cases h; rfl)
    · replace h := (if_neg c3).symm.trans h
      refine g_iload_n X dX11_run_20 rfl 2 rfl ?_
      refine g_i2l X dX11_run_21 (v := ((x2).toInt64)) rfl ?_
      refine g_lconst X dX11_run_22 (v := (0 : Int64)) rfl ?_
      refine g_lconst X dX11_run_23 (v := (1 : Int64)) rfl ?_
      obtain ⟨q4, hq4, h⟩ := Option.bind_eq_some_iff.mp h
      refine g_cS X (c_Model_isIn  hq4) lk_RX11_233 my_X11_isIn (As := [.long ((x2).toInt64), .long (0 : Int64), .long (1 : Int64)]) (rest := []) rfl rfl (Nat.le_of_ble_eq_true rfl) ⟨(Nat.le_of_ble_eq_true rfl), (Nat.le_of_ble_eq_true rfl)⟩ ⟨(Nat.le_of_ble_eq_true rfl), (Nat.le_of_ble_eq_true rfl)⟩ dX11_run_24 (st' := [.int q4]) (σ' := (sI σ 565 0 (0 : Int32))) rfl rfl ?_
      refine g_if_ne (tgt := 34) X dX11_run_27 (by decide) (fun c5 => ?_) (fun c5 => ?_)
      · replace h := (if_neg c5).symm.trans h
        refine g_aload_n X dX11_run_34 rfl 0 rfl ?_
        refine g_get X fl_RX11_61 dX11_run_35 kd_565 (v := .ref (be θ + 578)) rfl ?_
        refine g_aload_n X dX11_run_38 rfl 0 rfl ?_
        refine g_get X fl_RX11_64 dX11_run_39 kd_565 (v := .ref (be θ + 579)) rfl ?_
        obtain ⟨q6, hq6, h⟩ := Option.bind_eq_some_iff.mp h
        refine g_cS X (c_Model_copy kd_578 kd_579 hq6) lk_RX11_464 my_X11_copy (As := [.ref (be θ + 578), .ref (be θ + 579)]) (rest := []) rfl rfl (Nat.le_of_ble_eq_true rfl) ⟨(Nat.le_of_ble_eq_true rfl), (Nat.le_of_ble_eq_true rfl)⟩ ⟨(Nat.le_of_ble_eq_true rfl), (Nat.le_of_ble_eq_true rfl)⟩ dX11_run_42 (st' := []) (σ' := q6) rfl rfl ?_
        refine g_iconst X dX11_run_45 (v := (0 : Int32)) ic_0 ?_
        refine g_istore_n X dX11_run_46 rfl (by decide) (lv' := [(3, .int (0 : Int32)), (0, .ref (be θ + 565)), (1, .int x1), (2, .int x2)]) rfl ?_
        refine g_iconst X dX11_run_47 (v := (0 : Int32)) ic_0 ?_
        refine g_istore X dX11_run_48 (by decide) (lv' := [(4, .int (0 : Int32)), (3, .int (0 : Int32)), (0, .ref (be θ + 565)), (1, .int x1), (2, .int x2)]) rfl ?_
        obtain ⟨q17, hq17, h⟩ := Option.bind_eq_some_iff.mp h
        refine g_sub (lv' := [(0, .ref (be θ + 565)), (1, .int x1), (2, .int x2), (3, .int (0 : Int32))]) [2, 3, 4, 1] rfl (gl_Model_run_L50 X hr hlk    FU _ q17 hq17 ?_)
        obtain ⟨τ17, w17_3⟩ := q17
        dsimp only at h ⊢
        exact g_sub (lv' := [(0, .ref (be θ + 565)), (1, .int x1), (2, .int x2), (3, .int w17_3)]) [0, 1, 2, 3] rfl (g_Model_run_J152 X hr hlk    h)
      · replace h := (if_pos c5).symm.trans h
        refine g_ldcw X cst_RX11_411 dX11_run_30 ?_
        exact g_iret X hr hlk dX11_run_33 (by cases h; rfl)
set_option maxHeartbeats 4000000 in
set_option maxRecDepth 20000 in
theorem c_Model_run {θ : Th} {l : Launch} {σ : Mem} {x1 : Int32} {x2 : Int32} {r : Int32 × Mem}  (h : f_Model_run σ x1 x2 = some r) : Cn θ l yX11_run cX11_run 6 (some .int) 66 0 0 [.ref (be θ + 565), .int x1, .int x2] σ (some (.int r.1), r.2) :=
  Cn.of (by decide) (Nat.le_of_ble_eq_true rfl) (fun p e s m below meth c X hr hlk => g_Model_run X hr hlk  h)
theorem dX11_perform_0 : decode cX11_perform 0 = .ok (.aload_n 0, 1) := by decide +kernel
theorem dX11_perform_1 : decode cX11_perform 1 = .ok (.iconst 0, 1) := by decide +kernel
theorem dX11_perform_2 : decode cX11_perform 2 = .ok (.putfield 112, 3) := by decide +kernel
theorem dX11_perform_5 : decode cX11_perform 5 = .ok (.aload_n 0, 1) := by decide +kernel
theorem dX11_perform_6 : decode cX11_perform 6 = .ok (.iload_n 1, 1) := by decide +kernel
theorem dX11_perform_7 : decode cX11_perform 7 = .ok (.invokevirtual 461, 3) := by decide +kernel
theorem dX11_perform_10 : decode cX11_perform 10 = .ok (.ifCond .eq 10, 3) := by decide +kernel
theorem dX11_perform_13 : decode cX11_perform 13 = .ok (.aload_n 0, 1) := by decide +kernel
theorem dX11_perform_14 : decode cX11_perform 14 = .ok (.getfield 310, 3) := by decide +kernel
theorem dX11_perform_17 : decode cX11_perform 17 = .ok (.ifCond .ne 5, 3) := by decide +kernel
theorem dX11_perform_20 : decode cX11_perform 20 = .ok (.iconst (-1), 1) := by decide +kernel
theorem dX11_perform_21 : decode cX11_perform 21 = .ok (.ireturn, 1) := by decide +kernel
theorem dX11_perform_22 : decode cX11_perform 22 = .ok (.iconst 0, 1) := by decide +kernel
theorem dX11_perform_23 : decode cX11_perform 23 = .ok (.istore_n 2, 1) := by decide +kernel
theorem dX11_perform_24 : decode cX11_perform 24 = .ok (.iconst 0, 1) := by decide +kernel
theorem dX11_perform_25 : decode cX11_perform 25 = .ok (.istore_n 3, 1) := by decide +kernel
theorem dX11_perform_26 : decode cX11_perform 26 = .ok (.iload_n 2, 1) := by decide +kernel
theorem dX11_perform_27 : decode cX11_perform 27 = .ok (.aload_n 0, 1) := by decide +kernel
theorem dX11_perform_28 : decode cX11_perform 28 = .ok (.getfield 58, 3) := by decide +kernel
theorem dX11_perform_31 : decode cX11_perform 31 = .ok (.iload_n 1, 1) := by decide +kernel
theorem dX11_perform_32 : decode cX11_perform 32 = .ok (.iaload, 1) := by decide +kernel
theorem dX11_perform_33 : decode cX11_perform 33 = .ok (.if_icmp .ge 94, 3) := by decide +kernel
theorem dX11_perform_36 : decode cX11_perform 36 = .ok (.aload_n 0, 1) := by decide +kernel
theorem dX11_perform_37 : decode cX11_perform 37 = .ok (.aload_n 0, 1) := by decide +kernel
theorem dX11_perform_38 : decode cX11_perform 38 = .ok (.getfield 61, 3) := by decide +kernel
theorem dX11_perform_41 : decode cX11_perform 41 = .ok (.iconst 3, 1) := by decide +kernel
theorem dX11_perform_42 : decode cX11_perform 42 = .ok (.bipush 16, 2) := by decide +kernel
theorem dX11_perform_44 : decode cX11_perform 44 = .ok (.iload_n 1, 1) := by decide +kernel
theorem dX11_perform_45 : decode cX11_perform 45 = .ok (.imul, 1) := by decide +kernel
theorem dX11_perform_46 : decode cX11_perform 46 = .ok (.iload_n 2, 1) := by decide +kernel
theorem dX11_perform_47 : decode cX11_perform 47 = .ok (.iadd, 1) := by decide +kernel
theorem dX11_perform_48 : decode cX11_perform 48 = .ok (.imul, 1) := by decide +kernel
theorem dX11_perform_49 : decode cX11_perform 49 = .ok (.invokevirtual 468, 3) := by decide +kernel
theorem dX11_perform_52 : decode cX11_perform 52 = .ok (.ifCond .eq 75, 3) := by decide +kernel
theorem dX11_perform_55 : decode cX11_perform 55 = .ok (.aload_n 0, 1) := by decide +kernel
theorem dX11_perform_56 : decode cX11_perform 56 = .ok (.invokevirtual 429, 3) := by decide +kernel
theorem dX11_perform_59 : decode cX11_perform 59 = .ok (.iconst 3, 1) := by decide +kernel
theorem dX11_perform_60 : decode cX11_perform 60 = .ok (.bipush 16, 2) := by decide +kernel
theorem dX11_perform_62 : decode cX11_perform 62 = .ok (.iload_n 1, 1) := by decide +kernel
theorem dX11_perform_63 : decode cX11_perform 63 = .ok (.imul, 1) := by decide +kernel
theorem dX11_perform_64 : decode cX11_perform 64 = .ok (.iload_n 2, 1) := by decide +kernel
theorem dX11_perform_65 : decode cX11_perform 65 = .ok (.iadd, 1) := by decide +kernel
theorem dX11_perform_66 : decode cX11_perform 66 = .ok (.imul, 1) := by decide +kernel
theorem dX11_perform_67 : decode cX11_perform 67 = .ok (.istore 4, 2) := by decide +kernel
theorem dX11_perform_69 : decode cX11_perform 69 = .ok (.aload_n 0, 1) := by decide +kernel
theorem dX11_perform_70 : decode cX11_perform 70 = .ok (.getfield 55, 3) := by decide +kernel
theorem dX11_perform_73 : decode cX11_perform 73 = .ok (.iload 4, 2) := by decide +kernel
theorem dX11_perform_75 : decode cX11_perform 75 = .ok (.iaload, 1) := by decide +kernel
theorem dX11_perform_76 : decode cX11_perform 76 = .ok (.iconst 4, 1) := by decide +kernel
theorem dX11_perform_77 : decode cX11_perform 77 = .ok (.if_icmp .ne 10, 3) := by decide +kernel
theorem dX11_perform_80 : decode cX11_perform 80 = .ok (.aload_n 0, 1) := by decide +kernel
theorem dX11_perform_81 : decode cX11_perform 81 = .ok (.invokevirtual 439, 3) := by decide +kernel
theorem dX11_perform_84 : decode cX11_perform 84 = .ok (.goto 36, 3) := by decide +kernel
theorem dX11_perform_87 : decode cX11_perform 87 = .ok (.aload_n 0, 1) := by decide +kernel
theorem dX11_perform_88 : decode cX11_perform 88 = .ok (.aload_n 0, 1) := by decide +kernel
theorem dX11_perform_89 : decode cX11_perform 89 = .ok (.getfield 61, 3) := by decide +kernel
theorem dX11_perform_92 : decode cX11_perform 92 = .ok (.aload_n 0, 1) := by decide +kernel
theorem dX11_perform_93 : decode cX11_perform 93 = .ok (.getfield 55, 3) := by decide +kernel
theorem dX11_perform_96 : decode cX11_perform 96 = .ok (.iload 4, 2) := by decide +kernel
theorem dX11_perform_98 : decode cX11_perform 98 = .ok (.iaload, 1) := by decide +kernel
theorem dX11_perform_99 : decode cX11_perform 99 = .ok (.aload_n 0, 1) := by decide +kernel
theorem dX11_perform_100 : decode cX11_perform 100 = .ok (.getfield 55, 3) := by decide +kernel
theorem dX11_perform_103 : decode cX11_perform 103 = .ok (.iload 4, 2) := by decide +kernel
theorem dX11_perform_105 : decode cX11_perform 105 = .ok (.iconst 1, 1) := by decide +kernel
theorem dX11_perform_106 : decode cX11_perform 106 = .ok (.iadd, 1) := by decide +kernel
theorem dX11_perform_107 : decode cX11_perform 107 = .ok (.iaload, 1) := by decide +kernel
theorem dX11_perform_108 : decode cX11_perform 108 = .ok (.aload_n 0, 1) := by decide +kernel
theorem dX11_perform_109 : decode cX11_perform 109 = .ok (.getfield 55, 3) := by decide +kernel
theorem dX11_perform_112 : decode cX11_perform 112 = .ok (.iload 4, 2) := by decide +kernel
theorem dX11_perform_114 : decode cX11_perform 114 = .ok (.iconst 2, 1) := by decide +kernel
theorem dX11_perform_115 : decode cX11_perform 115 = .ok (.iadd, 1) := by decide +kernel
theorem dX11_perform_116 : decode cX11_perform 116 = .ok (.iaload, 1) := by decide +kernel
theorem dX11_perform_117 : decode cX11_perform 117 = .ok (.invokevirtual 432, 3) := by decide +kernel
theorem dX11_perform_120 : decode cX11_perform 120 = .ok (.istore_n 3, 1) := by decide +kernel
theorem dX11_perform_121 : decode cX11_perform 121 = .ok (.iinc 2 1, 3) := by decide +kernel
theorem dX11_perform_124 : decode cX11_perform 124 = .ok (.goto (-98), 3) := by decide +kernel
theorem dX11_perform_127 : decode cX11_perform 127 = .ok (.iload_n 2, 1) := by decide +kernel
theorem dX11_perform_128 : decode cX11_perform 128 = .ok (.ireturn, 1) := by decide +kernel
def f_Model_perform_L26 (x1 : Int32) (a : Mem × Int32) : Option ((Mem × Int32) ⊕ (Int32 × Mem)) :=
  @Prod.casesOn (Mem) (Int32) (fun _ => Option ((Mem × Int32) ⊕ (Int32 × Mem))) a fun τ z2 =>
  if inb x1 5 then
    if (mI τ 577 x1.toNatClampNeg) ≤ z2 then
      some (.inr (z2, τ))
    else
      (f_Model_canStep τ 578 ((3 : Int32) * (((16 : Int32) * x1) + z2))).bind fun q6 =>
      if q6 = (0 : Int32) then
        some (.inr (z2, τ))
      else
        (f_Model_remember τ).bind fun q8 =>
        if inb ((3 : Int32) * (((16 : Int32) * x1) + z2)) 240 then
          if (mI q8 576 ((3 : Int32) * (((16 : Int32) * x1) + z2)).toNatClampNeg) = (4 : Int32) then
            (f_Model_goNow q8).bind fun q14 =>
            some (.inl (q14.2, (z2 + (1 : Int32))))
          else
            if inb (((3 : Int32) * (((16 : Int32) * x1) + z2)) + (1 : Int32)) 240 then
              if inb (((3 : Int32) * (((16 : Int32) * x1) + z2)) + (2 : Int32)) 240 then
                (f_Model_does q8 578 (mI q8 576 ((3 : Int32) * (((16 : Int32) * x1) + z2)).toNatClampNeg) (mI q8 576 (((3 : Int32) * (((16 : Int32) * x1) + z2)) + (1 : Int32)).toNatClampNeg) (mI q8 576 (((3 : Int32) * (((16 : Int32) * x1) + z2)) + (2 : Int32)).toNatClampNeg)).bind fun q13 =>
                some (.inl (q13.2, (z2 + (1 : Int32))))
              else none
            else none
        else none
  else none
def f_Model_perform (σ : Mem) (x1 : Int32) : Option (Int32 × Mem) :=
  (f_Model_isPlan (sI σ 565 0 (0 : Int32)) x1).bind fun q1 =>
  if q1 = (0 : Int32) then
    some ((-1 : Int32), (sI σ 565 0 (0 : Int32)))
  else
    if (mI (sI σ 565 0 (0 : Int32)) 565 27) = (0 : Int32) then
      some ((-1 : Int32), (sI σ 565 0 (0 : Int32)))
    else
      loopF (f_Model_perform_L26 x1) FU ((sI σ 565 0 (0 : Int32)), (0 : Int32))
set_option maxHeartbeats 4000000 in
set_option maxRecDepth 20000 in
theorem gs_Model_perform_L26 (X : Cx θ p s m args c cX11_perform 5 RX11) (hr : meth.sig.returnType = some .int) (hlk : meth.locks = false)  {x1 : Int32} {r : Int32 × Mem}  (τ : Mem) (z2 : Int32) (x : (Mem × Int32) ⊕ (Int32 × Mem)) (h : f_Model_perform_L26 x1 (τ, z2) = some x) (hk : Sum.elim (fun a => @Prod.casesOn (Mem) (Int32) (fun _ => Prop) a fun τ z2 => GB θ p l e 67 s m args below meth c 5 (some (.int r.1), r.2) 26 [(0, .ref (be θ + 565)), (1, .int x1), (2, .int z2)] [] τ) (fun b => b = r) x) : GB θ p l e 67 s m args below meth c 5 (some (.int r.1), r.2) 26 [(0, .ref (be θ + 565)), (1, .int x1), (2, .int z2)] [] τ := by
  unfold f_Model_perform_L26 at h
  dsimp only at h
  refine g_iload_n X dX11_perform_26 rfl 2 rfl ?_
  refine g_aload_n X dX11_perform_27 rfl 0 rfl ?_
  refine g_get X fl_RX11_58 dX11_perform_28 kd_565 (v := .ref (be θ + 577)) rfl ?_
  refine g_iload_n X dX11_perform_31 rfl 1 rfl ?_
  obtain ⟨g4, h⟩ := ite_some h
  refine g_iald X kd_577 ln_577 (inb_in g4) dX11_perform_32 ?_
  refine g_icmp_ge (tgt := 127) X dX11_perform_33 (by decide) (fun c5 => ?_) (fun c5 => ?_)
  · replace h := (if_pos c5).symm.trans h
    refine g_iload_n X dX11_perform_127 rfl 2 rfl ?_
    have hk := inr_hk h hk
    have hk : (z2, τ) = r := hk
    subst hk
    exact g_iret X hr hlk dX11_perform_128 rfl
  · replace h := (if_neg c5).symm.trans h
    refine g_aload_n X dX11_perform_36 rfl 0 rfl ?_
    refine g_aload_n X dX11_perform_37 rfl 0 rfl ?_
    refine g_get X fl_RX11_61 dX11_perform_38 kd_565 (v := .ref (be θ + 578)) rfl ?_
    refine g_iconst X dX11_perform_41 (v := (3 : Int32)) ic_3 ?_
    refine g_bipush X dX11_perform_42 (v := (16 : Int32)) bp_16 ?_
    refine g_iload_n X dX11_perform_44 rfl 1 rfl ?_
    refine g_imul X dX11_perform_45 ?_
    refine g_iload_n X dX11_perform_46 rfl 2 rfl ?_
    refine g_iadd X dX11_perform_47 ?_
    refine g_imul X dX11_perform_48 ?_
    obtain ⟨q6, hq6, h⟩ := Option.bind_eq_some_iff.mp h
    refine g_cV X (c_Model_canStep kd_578 hq6) lk_RX11_468 my_X11_canStep (a := 565) (ci := 11) kd_565 (by decide) rfl (As := [.ref (be θ + 578), .int ((3 : Int32) * (((16 : Int32) * x1) + z2))]) (rest := []) rfl rfl (Nat.le_of_ble_eq_true rfl) ⟨(Nat.le_of_ble_eq_true rfl), (Nat.le_of_ble_eq_true rfl)⟩ ⟨(Nat.le_of_ble_eq_true rfl), (Nat.le_of_ble_eq_true rfl)⟩ dX11_perform_49 (st' := [.int q6]) (σ' := τ) rfl rfl ?_
    refine g_if_eq (tgt := 127) X dX11_perform_52 (by decide) (fun c7 => ?_) (fun c7 => ?_)
    · replace h := (if_pos c7).symm.trans h
      refine g_iload_n X dX11_perform_127 rfl 2 rfl ?_
      have hk := inr_hk h hk
      have hk : (z2, τ) = r := hk
      subst hk
      exact g_iret X hr hlk dX11_perform_128 rfl
    · replace h := (if_neg c7).symm.trans h
      refine g_aload_n X dX11_perform_55 rfl 0 rfl ?_
      obtain ⟨q8, hq8, h⟩ := Option.bind_eq_some_iff.mp h
      refine g_cV X (c_Model_remember  hq8) lk_RX11_429 my_X11_remember (a := 565) (ci := 11) kd_565 (by decide) rfl (As := []) (rest := []) rfl rfl (Nat.le_of_ble_eq_true rfl) ⟨(Nat.le_of_ble_eq_true rfl), (Nat.le_of_ble_eq_true rfl)⟩ ⟨(Nat.le_of_ble_eq_true rfl), (Nat.le_of_ble_eq_true rfl)⟩ dX11_perform_56 (st' := []) (σ' := q8) rfl rfl ?_
      refine g_iconst X dX11_perform_59 (v := (3 : Int32)) ic_3 ?_
      refine g_bipush X dX11_perform_60 (v := (16 : Int32)) bp_16 ?_
      refine g_iload_n X dX11_perform_62 rfl 1 rfl ?_
      refine g_imul X dX11_perform_63 ?_
      refine g_iload_n X dX11_perform_64 rfl 2 rfl ?_
      refine g_iadd X dX11_perform_65 ?_
      refine g_imul X dX11_perform_66 ?_
      refine g_istore X dX11_perform_67 (by decide) (lv' := [(4, .int ((3 : Int32) * (((16 : Int32) * x1) + z2))), (0, .ref (be θ + 565)), (1, .int x1), (2, .int z2)]) rfl ?_
      refine g_aload_n X dX11_perform_69 rfl 1 rfl ?_
      refine g_get X fl_RX11_55 dX11_perform_70 kd_565 (v := .ref (be θ + 576)) rfl ?_
      refine g_iload X dX11_perform_73 0 rfl ?_
      obtain ⟨g9, h⟩ := ite_some h
      refine g_iald X kd_576 ln_576 (inb_in g9) dX11_perform_75 ?_
      refine g_iconst X dX11_perform_76 (v := (4 : Int32)) ic_4 ?_
      refine g_icmp_ne (tgt := 87) X dX11_perform_77 (by decide) (fun c10 => ?_) (fun c10 => ?_)
      · replace h := (if_neg c10).symm.trans h
        refine g_aload_n X dX11_perform_87 rfl 1 rfl ?_
        refine g_aload_n X dX11_perform_88 rfl 1 rfl ?_
        refine g_get X fl_RX11_61 dX11_perform_89 kd_565 (v := .ref (be θ + 578)) rfl ?_
        refine g_aload_n X dX11_perform_92 rfl 1 rfl ?_
        refine g_get X fl_RX11_55 dX11_perform_93 kd_565 (v := .ref (be θ + 576)) rfl ?_
        refine g_iload X dX11_perform_96 0 rfl ?_
        refine g_iald X kd_576 ln_576 (inb_in g9) dX11_perform_98 ?_
        refine g_aload_n X dX11_perform_99 rfl 1 rfl ?_
        refine g_get X fl_RX11_55 dX11_perform_100 kd_565 (v := .ref (be θ + 576)) rfl ?_
        refine g_iload X dX11_perform_103 0 rfl ?_
        refine g_iconst X dX11_perform_105 (v := (1 : Int32)) ic_1 ?_
        refine g_iadd X dX11_perform_106 ?_
        obtain ⟨g11, h⟩ := ite_some h
        refine g_iald X kd_576 ln_576 (inb_in g11) dX11_perform_107 ?_
        refine g_aload_n X dX11_perform_108 rfl 1 rfl ?_
        refine g_get X fl_RX11_55 dX11_perform_109 kd_565 (v := .ref (be θ + 576)) rfl ?_
        refine g_iload X dX11_perform_112 0 rfl ?_
        refine g_iconst X dX11_perform_114 (v := (2 : Int32)) ic_2 ?_
        refine g_iadd X dX11_perform_115 ?_
        obtain ⟨g12, h⟩ := ite_some h
        refine g_iald X kd_576 ln_576 (inb_in g12) dX11_perform_116 ?_
        obtain ⟨q13, hq13, h⟩ := Option.bind_eq_some_iff.mp h
        refine g_cV X (c_Model_does kd_578 hq13) lk_RX11_432 my_X11_does (a := 565) (ci := 11) kd_565 (by decide) rfl (As := [.ref (be θ + 578), .int (mI q8 576 ((3 : Int32) * (((16 : Int32) * x1) + z2)).toNatClampNeg), .int (mI q8 576 (((3 : Int32) * (((16 : Int32) * x1) + z2)) + (1 : Int32)).toNatClampNeg), .int (mI q8 576 (((3 : Int32) * (((16 : Int32) * x1) + z2)) + (2 : Int32)).toNatClampNeg)]) (rest := []) rfl rfl (Nat.le_of_ble_eq_true rfl) ⟨(Nat.le_of_ble_eq_true rfl), (Nat.le_of_ble_eq_true rfl)⟩ ⟨(Nat.le_of_ble_eq_true rfl), (Nat.le_of_ble_eq_true rfl)⟩ dX11_perform_117 (st' := [.int q13.1]) (σ' := q13.2) rfl rfl ?_
        refine g_istore_n X dX11_perform_120 rfl (by decide) (lv' := [(3, .int q13.1), (4, .int ((3 : Int32) * (((16 : Int32) * x1) + z2))), (0, .ref (be θ + 565)), (1, .int x1), (2, .int z2)]) rfl ?_
        refine g_iinc X dX11_perform_121 (kq := 4) rfl (congrArg (HAdd.hAdd _) ic_1) (by decide) (lv' := [(2, .int (z2 + (1 : Int32))), (3, .int q13.1), (4, .int ((3 : Int32) * (((16 : Int32) * x1) + z2))), (0, .ref (be θ + 565)), (1, .int x1)]) rfl ?_
        refine g_goto (tgt := 26) X dX11_perform_124 (by decide) ?_
        have hk := inl_hk h hk
        exact g_sub (lv' := [(0, .ref (be θ + 565)), (1, .int x1), (2, .int (z2 + (1 : Int32)))]) [3, 4, 0] rfl hk
      · replace h := (if_pos c10).symm.trans h
        refine g_aload_n X dX11_perform_80 rfl 1 rfl ?_
        obtain ⟨q14, hq14, h⟩ := Option.bind_eq_some_iff.mp h
        refine g_cV X (c_Model_goNow  hq14) lk_RX11_439 my_X11_goNow (a := 565) (ci := 11) kd_565 (by decide) rfl (As := []) (rest := []) rfl rfl (Nat.le_of_ble_eq_true rfl) ⟨(Nat.le_of_ble_eq_true rfl), (Nat.le_of_ble_eq_true rfl)⟩ ⟨(Nat.le_of_ble_eq_true rfl), (Nat.le_of_ble_eq_true rfl)⟩ dX11_perform_81 (st' := [.int q14.1]) (σ' := q14.2) rfl rfl ?_
        refine g_goto (tgt := 120) X dX11_perform_84 (by decide) ?_
        refine g_istore_n X dX11_perform_120 rfl (by decide) (lv' := [(3, .int q14.1), (4, .int ((3 : Int32) * (((16 : Int32) * x1) + z2))), (0, .ref (be θ + 565)), (1, .int x1), (2, .int z2)]) rfl ?_
        refine g_iinc X dX11_perform_121 (kq := 4) rfl (congrArg (HAdd.hAdd _) ic_1) (by decide) (lv' := [(2, .int (z2 + (1 : Int32))), (3, .int q14.1), (4, .int ((3 : Int32) * (((16 : Int32) * x1) + z2))), (0, .ref (be θ + 565)), (1, .int x1)]) rfl ?_
        refine g_goto (tgt := 26) X dX11_perform_124 (by decide) ?_
        have hk := inl_hk h hk
        exact g_sub (lv' := [(0, .ref (be θ + 565)), (1, .int x1), (2, .int (z2 + (1 : Int32)))]) [3, 4, 0] rfl hk
set_option maxHeartbeats 4000000 in
set_option maxRecDepth 20000 in
theorem gl_Model_perform_L26 (X : Cx θ p s m args c cX11_perform 5 RX11) (hr : meth.sig.returnType = some .int) (hlk : meth.locks = false)  {x1 : Int32} {r : Int32 × Mem}  (n : Nat) (a : Mem × Int32) (b : Int32 × Mem) (h : loopF (f_Model_perform_L26 x1) n a = some b) (hk : (fun b => b = r) b) : (fun a => @Prod.casesOn (Mem) (Int32) (fun _ => Prop) a fun τ z2 => GB θ p l e 67 s m args below meth c 5 (some (.int r.1), r.2) 26 [(0, .ref (be θ + 565)), (1, .int x1), (2, .int z2)] [] τ) a :=
  loopF_by (P := (fun a => @Prod.casesOn (Mem) (Int32) (fun _ => Prop) a fun τ z2 => GB θ p l e 67 s m args below meth c 5 (some (.int r.1), r.2) 26 [(0, .ref (be θ + 565)), (1, .int x1), (2, .int z2)] [] τ)) (K := (fun b => b = r)) (fun a x h hk => by obtain ⟨τ, z2⟩ := a; exact gs_Model_perform_L26 X hr hlk   τ z2 x h hk) n a b h hk
set_option maxHeartbeats 4000000 in
set_option maxRecDepth 20000 in
theorem g_Model_perform (X : Cx θ p s m args c cX11_perform 5 RX11) (hr : meth.sig.returnType = some .int) (hlk : meth.locks = false)  {σ : Mem} {x1 : Int32} {r : Int32 × Mem}  (h : f_Model_perform σ x1 = some r) : GB θ p l e 67 s m args below meth c 5 (some (.int r.1), r.2) 0 [(0, .ref (be θ + 565)), (1, .int x1)] [] σ := by
  unfold f_Model_perform at h
  refine g_aload_n X dX11_perform_0 rfl 0 rfl ?_
  refine g_iconst X dX11_perform_1 (v := (0 : Int32)) ic_0 ?_
  refine g_putI X fl_RX11_112 dX11_perform_2 kd_565 rfl rfl rfl ?_
  refine g_aload_n X dX11_perform_5 rfl 0 rfl ?_
  refine g_iload_n X dX11_perform_6 rfl 1 rfl ?_
  obtain ⟨q1, hq1, h⟩ := Option.bind_eq_some_iff.mp h
  refine g_cV X (c_Model_isPlan  hq1) lk_RX11_461 my_X11_isPlan (a := 565) (ci := 11) kd_565 (by decide) rfl (As := [.int x1]) (rest := []) rfl rfl (Nat.le_of_ble_eq_true rfl) ⟨(Nat.le_of_ble_eq_true rfl), (Nat.le_of_ble_eq_true rfl)⟩ ⟨(Nat.le_of_ble_eq_true rfl), (Nat.le_of_ble_eq_true rfl)⟩ dX11_perform_7 (st' := [.int q1]) (σ' := (sI σ 565 0 (0 : Int32))) rfl rfl ?_
  refine g_if_eq (tgt := 20) X dX11_perform_10 (by decide) (fun c2 => ?_) (fun c2 => ?_)
  · replace h := (if_pos c2).symm.trans h
    refine g_iconst X dX11_perform_20 (v := (-1 : Int32)) ic_m1 ?_
    exact g_iret X hr hlk dX11_perform_21 (by cases h; rfl)
  · replace h := (if_neg c2).symm.trans h
    refine g_aload_n X dX11_perform_13 rfl 0 rfl ?_
    refine g_get X fl_RX11_310 dX11_perform_14 kd_565 (v := .int (mI (sI σ 565 0 (0 : Int32)) 565 27)) rfl ?_
    refine g_if_ne (tgt := 22) X dX11_perform_17 (by decide) (fun c3 => ?_) (fun c3 => ?_)
    · replace h := (if_neg c3).symm.trans h
      refine g_iconst X dX11_perform_22 (v := (0 : Int32)) ic_0 ?_
      refine g_istore_n X dX11_perform_23 rfl (by decide) (lv' := [(2, .int (0 : Int32)), (0, .ref (be θ + 565)), (1, .int x1)]) rfl ?_
      refine g_iconst X dX11_perform_24 (v := (0 : Int32)) ic_0 ?_
      refine g_istore_n X dX11_perform_25 rfl (by decide) (lv' := [(3, .int (0 : Int32)), (2, .int (0 : Int32)), (0, .ref (be θ + 565)), (1, .int x1)]) rfl ?_
      exact g_sub (lv' := [(0, .ref (be θ + 565)), (1, .int x1), (2, .int (0 : Int32))]) [2, 3, 1] rfl (gl_Model_perform_L26 X hr hlk    FU _ _ h rfl)
    · replace h := (if_pos c3).symm.trans h
      refine g_iconst X dX11_perform_20 (v := (-1 : Int32)) ic_m1 ?_
      exact g_iret X hr hlk dX11_perform_21 (by cases h; rfl)
set_option maxHeartbeats 4000000 in
set_option maxRecDepth 20000 in
theorem c_Model_perform {θ : Th} {l : Launch} {σ : Mem} {x1 : Int32} {r : Int32 × Mem}  (h : f_Model_perform σ x1 = some r) : Cn θ l yX11_perform cX11_perform 5 (some .int) 67 0 0 [.ref (be θ + 565), .int x1] σ (some (.int r.1), r.2) :=
  Cn.of (by decide) (Nat.le_of_ble_eq_true rfl) (fun p e s m below meth c X hr hlk => g_Model_perform X hr hlk  h)
theorem dX11_laysTrial_0 : decode cX11_laysTrial 0 = .ok (.aload_n 0, 1) := by decide +kernel
theorem dX11_laysTrial_1 : decode cX11_laysTrial 1 = .ok (.getfield 61, 3) := by decide +kernel
theorem dX11_laysTrial_4 : decode cX11_laysTrial 4 = .ok (.aload_n 0, 1) := by decide +kernel
theorem dX11_laysTrial_5 : decode cX11_laysTrial 5 = .ok (.getfield 64, 3) := by decide +kernel
theorem dX11_laysTrial_8 : decode cX11_laysTrial 8 = .ok (.invokestatic 464, 3) := by decide +kernel
theorem dX11_laysTrial_11 : decode cX11_laysTrial 11 = .ok (.iconst 0, 1) := by decide +kernel
theorem dX11_laysTrial_12 : decode cX11_laysTrial 12 = .ok (.istore_n 2, 1) := by decide +kernel
theorem dX11_laysTrial_13 : decode cX11_laysTrial 13 = .ok (.iload_n 2, 1) := by decide +kernel
theorem dX11_laysTrial_14 : decode cX11_laysTrial 14 = .ok (.iload_n 1, 1) := by decide +kernel
theorem dX11_laysTrial_15 : decode cX11_laysTrial 15 = .ok (.if_icmp .ge 17, 3) := by decide +kernel
theorem dX11_laysTrial_18 : decode cX11_laysTrial 18 = .ok (.aload_n 0, 1) := by decide +kernel
theorem dX11_laysTrial_19 : decode cX11_laysTrial 19 = .ok (.aload_n 0, 1) := by decide +kernel
theorem dX11_laysTrial_20 : decode cX11_laysTrial 20 = .ok (.getfield 64, 3) := by decide +kernel
theorem dX11_laysTrial_23 : decode cX11_laysTrial 23 = .ok (.invokevirtual 402, 3) := by decide +kernel
theorem dX11_laysTrial_26 : decode cX11_laysTrial 26 = .ok (.iinc 2 1, 3) := by decide +kernel
theorem dX11_laysTrial_29 : decode cX11_laysTrial 29 = .ok (.goto (-16), 3) := by decide +kernel
theorem dX11_laysTrial_32 : decode cX11_laysTrial 32 = .ok (.return_, 1) := by decide +kernel
def f_Model_laysTrial_L13 (x1 : Int32) (a : Mem × Int32) : Option ((Mem × Int32) ⊕ (Mem)) :=
  @Prod.casesOn (Mem) (Int32) (fun _ => Option ((Mem × Int32) ⊕ (Mem))) a fun τ z2 =>
  if x1 ≤ z2 then
    some (.inr τ)
  else
    (f_Model_passes τ 579).bind fun q3 =>
    some (.inl (q3, (z2 + (1 : Int32))))
def f_Model_laysTrial (σ : Mem) (x1 : Int32) : Option (Mem) :=
  (f_Model_copy σ 578 579).bind fun q1 =>
  loopF (f_Model_laysTrial_L13 x1) FU (q1, (0 : Int32))
set_option maxHeartbeats 4000000 in
set_option maxRecDepth 20000 in
theorem gs_Model_laysTrial_L13 (X : Cx θ p s m args c cX11_laysTrial 3 RX11) (hr : meth.sig.returnType = none) (hlk : meth.locks = false)  {x1 : Int32} {r : Mem}  (τ : Mem) (z2 : Int32) (x : (Mem × Int32) ⊕ (Mem)) (h : f_Model_laysTrial_L13 x1 (τ, z2) = some x) (hk : Sum.elim (fun a => @Prod.casesOn (Mem) (Int32) (fun _ => Prop) a fun τ z2 => GB θ p l e 66 s m args below meth c 3 (none, r) 13 [(0, .ref (be θ + 565)), (1, .int x1), (2, .int z2)] [] τ) (fun b => b = r) x) : GB θ p l e 66 s m args below meth c 3 (none, r) 13 [(0, .ref (be θ + 565)), (1, .int x1), (2, .int z2)] [] τ := by
  unfold f_Model_laysTrial_L13 at h
  dsimp only at h
  refine g_iload_n X dX11_laysTrial_13 rfl 2 rfl ?_
  refine g_iload_n X dX11_laysTrial_14 rfl 1 rfl ?_
  refine g_icmp_ge (tgt := 32) X dX11_laysTrial_15 (by decide) (fun c2 => ?_) (fun c2 => ?_)
  · replace h := (if_pos c2).symm.trans h
    have hk := inr_hk h hk
    have hk : τ = r := hk
    subst hk
    exact g_vret X hr hlk dX11_laysTrial_32 rfl
  · replace h := (if_neg c2).symm.trans h
    refine g_aload_n X dX11_laysTrial_18 rfl 0 rfl ?_
    refine g_aload_n X dX11_laysTrial_19 rfl 0 rfl ?_
    refine g_get X fl_RX11_64 dX11_laysTrial_20 kd_565 (v := .ref (be θ + 579)) rfl ?_
    obtain ⟨q3, hq3, h⟩ := Option.bind_eq_some_iff.mp h
    refine g_cV X (c_Model_passes kd_579 hq3) lk_RX11_402 my_X11_passes (a := 565) (ci := 11) kd_565 (by decide) rfl (As := [.ref (be θ + 579)]) (rest := []) rfl rfl (Nat.le_of_ble_eq_true rfl) ⟨(Nat.le_of_ble_eq_true rfl), (Nat.le_of_ble_eq_true rfl)⟩ ⟨(Nat.le_of_ble_eq_true rfl), (Nat.le_of_ble_eq_true rfl)⟩ dX11_laysTrial_23 (st' := []) (σ' := q3) rfl rfl ?_
    refine g_iinc X dX11_laysTrial_26 (kq := 2) rfl (congrArg (HAdd.hAdd _) ic_1) (by decide) (lv' := [(2, .int (z2 + (1 : Int32))), (0, .ref (be θ + 565)), (1, .int x1)]) rfl ?_
    refine g_goto (tgt := 13) X dX11_laysTrial_29 (by decide) ?_
    have hk := inl_hk h hk
    exact g_sub (lv' := [(0, .ref (be θ + 565)), (1, .int x1), (2, .int (z2 + (1 : Int32)))]) [1, 2, 0] rfl hk
set_option maxHeartbeats 4000000 in
set_option maxRecDepth 20000 in
theorem gl_Model_laysTrial_L13 (X : Cx θ p s m args c cX11_laysTrial 3 RX11) (hr : meth.sig.returnType = none) (hlk : meth.locks = false)  {x1 : Int32} {r : Mem}  (n : Nat) (a : Mem × Int32) (b : Mem) (h : loopF (f_Model_laysTrial_L13 x1) n a = some b) (hk : (fun b => b = r) b) : (fun a => @Prod.casesOn (Mem) (Int32) (fun _ => Prop) a fun τ z2 => GB θ p l e 66 s m args below meth c 3 (none, r) 13 [(0, .ref (be θ + 565)), (1, .int x1), (2, .int z2)] [] τ) a :=
  loopF_by (P := (fun a => @Prod.casesOn (Mem) (Int32) (fun _ => Prop) a fun τ z2 => GB θ p l e 66 s m args below meth c 3 (none, r) 13 [(0, .ref (be θ + 565)), (1, .int x1), (2, .int z2)] [] τ)) (K := (fun b => b = r)) (fun a x h hk => by obtain ⟨τ, z2⟩ := a; exact gs_Model_laysTrial_L13 X hr hlk   τ z2 x h hk) n a b h hk
set_option maxHeartbeats 4000000 in
set_option maxRecDepth 20000 in
theorem g_Model_laysTrial (X : Cx θ p s m args c cX11_laysTrial 3 RX11) (hr : meth.sig.returnType = none) (hlk : meth.locks = false)  {σ : Mem} {x1 : Int32} {r : Mem}  (h : f_Model_laysTrial σ x1 = some r) : GB θ p l e 66 s m args below meth c 3 (none, r) 0 [(0, .ref (be θ + 565)), (1, .int x1)] [] σ := by
  unfold f_Model_laysTrial at h
  refine g_aload_n X dX11_laysTrial_0 rfl 0 rfl ?_
  refine g_get X fl_RX11_61 dX11_laysTrial_1 kd_565 (v := .ref (be θ + 578)) rfl ?_
  refine g_aload_n X dX11_laysTrial_4 rfl 0 rfl ?_
  refine g_get X fl_RX11_64 dX11_laysTrial_5 kd_565 (v := .ref (be θ + 579)) rfl ?_
  obtain ⟨q1, hq1, h⟩ := Option.bind_eq_some_iff.mp h
  refine g_cS X (c_Model_copy kd_578 kd_579 hq1) lk_RX11_464 my_X11_copy (As := [.ref (be θ + 578), .ref (be θ + 579)]) (rest := []) rfl rfl (Nat.le_of_ble_eq_true rfl) ⟨(Nat.le_of_ble_eq_true rfl), (Nat.le_of_ble_eq_true rfl)⟩ ⟨(Nat.le_of_ble_eq_true rfl), (Nat.le_of_ble_eq_true rfl)⟩ dX11_laysTrial_8 (st' := []) (σ' := q1) rfl rfl ?_
  refine g_iconst X dX11_laysTrial_11 (v := (0 : Int32)) ic_0 ?_
  refine g_istore_n X dX11_laysTrial_12 rfl (by decide) (lv' := [(2, .int (0 : Int32)), (0, .ref (be θ + 565)), (1, .int x1)]) rfl ?_
  exact g_sub (lv' := [(0, .ref (be θ + 565)), (1, .int x1), (2, .int (0 : Int32))]) [1, 2, 0] rfl (gl_Model_laysTrial_L13 X hr hlk    FU _ _ h rfl)
set_option maxHeartbeats 4000000 in
set_option maxRecDepth 20000 in
theorem c_Model_laysTrial {θ : Th} {l : Launch} {σ : Mem} {x1 : Int32} {r : Mem}  (h : f_Model_laysTrial σ x1 = some r) : Cn θ l yX11_laysTrial cX11_laysTrial 3 (none) 66 0 0 [.ref (be θ + 565), .int x1] σ (none, r) :=
  Cn.of (by decide) (Nat.le_of_ble_eq_true rfl) (fun p e s m below meth c X hr hlk => g_Model_laysTrial X hr hlk  h)
theorem dX11_treasury_0 : decode cX11_treasury 0 = .ok (.aload_n 0, 1) := by decide +kernel
theorem dX11_treasury_1 : decode cX11_treasury 1 = .ok (.iconst 0, 1) := by decide +kernel
theorem dX11_treasury_2 : decode cX11_treasury 2 = .ok (.putfield 112, 3) := by decide +kernel
theorem dX11_treasury_5 : decode cX11_treasury 5 = .ok (.aload_n 0, 1) := by decide +kernel
theorem dX11_treasury_6 : decode cX11_treasury 6 = .ok (.getfield 310, 3) := by decide +kernel
theorem dX11_treasury_9 : decode cX11_treasury 9 = .ok (.ifCond .eq 15, 3) := by decide +kernel
theorem dX11_treasury_12 : decode cX11_treasury 12 = .ok (.iload_n 1, 1) := by decide +kernel
theorem dX11_treasury_13 : decode cX11_treasury 13 = .ok (.i2l, 1) := by decide +kernel
theorem dX11_treasury_14 : decode cX11_treasury 14 = .ok (.lconst 0, 1) := by decide +kernel
theorem dX11_treasury_15 : decode cX11_treasury 15 = .ok (.ldc2_w 474, 3) := by decide +kernel
theorem dX11_treasury_18 : decode cX11_treasury 18 = .ok (.invokestatic 233, 3) := by decide +kernel
theorem dX11_treasury_21 : decode cX11_treasury 21 = .ok (.ifCond .ne 5, 3) := by decide +kernel
theorem dX11_treasury_24 : decode cX11_treasury 24 = .ok (.iconst (-1), 1) := by decide +kernel
theorem dX11_treasury_25 : decode cX11_treasury 25 = .ok (.ireturn, 1) := by decide +kernel
theorem dX11_treasury_26 : decode cX11_treasury 26 = .ok (.aload_n 0, 1) := by decide +kernel
theorem dX11_treasury_27 : decode cX11_treasury 27 = .ok (.iload_n 1, 1) := by decide +kernel
theorem dX11_treasury_28 : decode cX11_treasury 28 = .ok (.invokevirtual 476, 3) := by decide +kernel
theorem dX11_treasury_31 : decode cX11_treasury 31 = .ok (.aload_n 0, 1) := by decide +kernel
theorem dX11_treasury_32 : decode cX11_treasury 32 = .ok (.getfield 64, 3) := by decide +kernel
theorem dX11_treasury_35 : decode cX11_treasury 35 = .ok (.sipush 129, 3) := by decide +kernel
theorem dX11_treasury_38 : decode cX11_treasury 38 = .ok (.iaload, 1) := by decide +kernel
theorem dX11_treasury_39 : decode cX11_treasury 39 = .ok (.ireturn, 1) := by decide +kernel
def f_Model_treasury (σ : Mem) (x1 : Int32) : Option (Int32 × Mem) :=
  if (mI (sI σ 565 0 (0 : Int32)) 565 27) = (0 : Int32) then
    some ((-1 : Int32), (sI σ 565 0 (0 : Int32)))
  else
    (f_Model_isIn (sI σ 565 0 (0 : Int32)) ((x1).toInt64) (0 : Int64) (60 : Int64)).bind fun q2 =>
    if q2 = (0 : Int32) then
      some ((-1 : Int32), (sI σ 565 0 (0 : Int32)))
    else
      (f_Model_laysTrial (sI σ 565 0 (0 : Int32)) x1).bind fun q4 =>
      some ((mI q4 579 (129 : Int32).toNatClampNeg), q4)
set_option maxHeartbeats 4000000 in
set_option maxRecDepth 20000 in
theorem g_Model_treasury (X : Cx θ p s m args c cX11_treasury 2 RX11) (hr : meth.sig.returnType = some .int) (hlk : meth.locks = false)  {σ : Mem} {x1 : Int32} {r : Int32 × Mem}  (h : f_Model_treasury σ x1 = some r) : GB θ p l e 67 s m args below meth c 2 (some (.int r.1), r.2) 0 [(0, .ref (be θ + 565)), (1, .int x1)] [] σ := by
  unfold f_Model_treasury at h
  refine g_aload_n X dX11_treasury_0 rfl 0 rfl ?_
  refine g_iconst X dX11_treasury_1 (v := (0 : Int32)) ic_0 ?_
  refine g_putI X fl_RX11_112 dX11_treasury_2 kd_565 rfl rfl rfl ?_
  refine g_aload_n X dX11_treasury_5 rfl 0 rfl ?_
  refine g_get X fl_RX11_310 dX11_treasury_6 kd_565 (v := .int (mI (sI σ 565 0 (0 : Int32)) 565 27)) rfl ?_
  refine g_if_eq (tgt := 24) X dX11_treasury_9 (by decide) (fun c1 => ?_) (fun c1 => ?_)
  · replace h := (if_pos c1).symm.trans h
    refine g_iconst X dX11_treasury_24 (v := (-1 : Int32)) ic_m1 ?_
    exact g_iret X hr hlk dX11_treasury_25 (by cases h; rfl)
  · replace h := (if_neg c1).symm.trans h
    refine g_iload_n X dX11_treasury_12 rfl 1 rfl ?_
    refine g_i2l X dX11_treasury_13 (v := ((x1).toInt64)) rfl ?_
    refine g_lconst X dX11_treasury_14 (v := (0 : Int64)) rfl ?_
    refine g_ldc2 X cst_RX11_474 dX11_treasury_15 ?_
    obtain ⟨q2, hq2, h⟩ := Option.bind_eq_some_iff.mp h
    refine g_cS X (c_Model_isIn  hq2) lk_RX11_233 my_X11_isIn (As := [.long ((x1).toInt64), .long (0 : Int64), .long (60 : Int64)]) (rest := []) rfl rfl (Nat.le_of_ble_eq_true rfl) ⟨(Nat.le_of_ble_eq_true rfl), (Nat.le_of_ble_eq_true rfl)⟩ ⟨(Nat.le_of_ble_eq_true rfl), (Nat.le_of_ble_eq_true rfl)⟩ dX11_treasury_18 (st' := [.int q2]) (σ' := (sI σ 565 0 (0 : Int32))) rfl rfl ?_
    refine g_if_ne (tgt := 26) X dX11_treasury_21 (by decide) (fun c3 => ?_) (fun c3 => ?_)
    · replace h := (if_neg c3).symm.trans h
      refine g_aload_n X dX11_treasury_26 rfl 0 rfl ?_
      refine g_iload_n X dX11_treasury_27 rfl 1 rfl ?_
      obtain ⟨q4, hq4, h⟩ := Option.bind_eq_some_iff.mp h
      refine g_cV X (c_Model_laysTrial  hq4) lk_RX11_476 my_X11_laysTrial (a := 565) (ci := 11) kd_565 (by decide) rfl (As := [.int x1]) (rest := []) rfl rfl (Nat.le_of_ble_eq_true rfl) ⟨(Nat.le_of_ble_eq_true rfl), (Nat.le_of_ble_eq_true rfl)⟩ ⟨(Nat.le_of_ble_eq_true rfl), (Nat.le_of_ble_eq_true rfl)⟩ dX11_treasury_28 (st' := []) (σ' := q4) rfl rfl ?_
      refine g_aload_n X dX11_treasury_31 rfl 0 rfl ?_
      refine g_get X fl_RX11_64 dX11_treasury_32 kd_565 (v := .ref (be θ + 579)) rfl ?_
      refine g_sipush X dX11_treasury_35 (v := (129 : Int32)) sp_129 ?_
      refine g_iald X kd_579 ln_579 (inb_in (show inb (129 : Int32) 131 = true by decide)) dX11_treasury_38 ?_
      exact g_iret X hr hlk dX11_treasury_39 (by cases h; rfl)
    · replace h := (if_pos c3).symm.trans h
      refine g_iconst X dX11_treasury_24 (v := (-1 : Int32)) ic_m1 ?_
      exact g_iret X hr hlk dX11_treasury_25 (by cases h; rfl)
set_option maxHeartbeats 4000000 in
set_option maxRecDepth 20000 in
theorem c_Model_treasury {θ : Th} {l : Launch} {σ : Mem} {x1 : Int32} {r : Int32 × Mem}  (h : f_Model_treasury σ x1 = some r) : Cn θ l yX11_treasury cX11_treasury 2 (some .int) 67 0 0 [.ref (be θ + 565), .int x1] σ (some (.int r.1), r.2) :=
  Cn.of (by decide) (Nat.le_of_ble_eq_true rfl) (fun p e s m below meth c X hr hlk => g_Model_treasury X hr hlk  h)
theorem dX11_purse_0 : decode cX11_purse 0 = .ok (.aload_n 0, 1) := by decide +kernel
theorem dX11_purse_1 : decode cX11_purse 1 = .ok (.iconst 0, 1) := by decide +kernel
theorem dX11_purse_2 : decode cX11_purse 2 = .ok (.putfield 112, 3) := by decide +kernel
theorem dX11_purse_5 : decode cX11_purse 5 = .ok (.aload_n 0, 1) := by decide +kernel
theorem dX11_purse_6 : decode cX11_purse 6 = .ok (.iload_n 1, 1) := by decide +kernel
theorem dX11_purse_7 : decode cX11_purse 7 = .ok (.invokevirtual 412, 3) := by decide +kernel
theorem dX11_purse_10 : decode cX11_purse 10 = .ok (.ifCond .eq 15, 3) := by decide +kernel
theorem dX11_purse_13 : decode cX11_purse 13 = .ok (.iload_n 2, 1) := by decide +kernel
theorem dX11_purse_14 : decode cX11_purse 14 = .ok (.i2l, 1) := by decide +kernel
theorem dX11_purse_15 : decode cX11_purse 15 = .ok (.lconst 0, 1) := by decide +kernel
theorem dX11_purse_16 : decode cX11_purse 16 = .ok (.ldc2_w 474, 3) := by decide +kernel
theorem dX11_purse_19 : decode cX11_purse 19 = .ok (.invokestatic 233, 3) := by decide +kernel
theorem dX11_purse_22 : decode cX11_purse 22 = .ok (.ifCond .ne 5, 3) := by decide +kernel
theorem dX11_purse_25 : decode cX11_purse 25 = .ok (.iconst (-1), 1) := by decide +kernel
theorem dX11_purse_26 : decode cX11_purse 26 = .ok (.ireturn, 1) := by decide +kernel
theorem dX11_purse_27 : decode cX11_purse 27 = .ok (.aload_n 0, 1) := by decide +kernel
theorem dX11_purse_28 : decode cX11_purse 28 = .ok (.iload_n 2, 1) := by decide +kernel
theorem dX11_purse_29 : decode cX11_purse 29 = .ok (.invokevirtual 476, 3) := by decide +kernel
theorem dX11_purse_32 : decode cX11_purse 32 = .ok (.aload_n 0, 1) := by decide +kernel
theorem dX11_purse_33 : decode cX11_purse 33 = .ok (.getfield 64, 3) := by decide +kernel
theorem dX11_purse_36 : decode cX11_purse 36 = .ok (.bipush 24, 2) := by decide +kernel
theorem dX11_purse_38 : decode cX11_purse 38 = .ok (.iload_n 1, 1) := by decide +kernel
theorem dX11_purse_39 : decode cX11_purse 39 = .ok (.iadd, 1) := by decide +kernel
theorem dX11_purse_40 : decode cX11_purse 40 = .ok (.iaload, 1) := by decide +kernel
theorem dX11_purse_41 : decode cX11_purse 41 = .ok (.ireturn, 1) := by decide +kernel
def f_Model_purse (σ : Mem) (x1 : Int32) (x2 : Int32) : Option (Int32 × Mem) :=
  (f_Model_isBuyer (sI σ 565 0 (0 : Int32)) x1).bind fun q1 =>
  if q1 = (0 : Int32) then
    some ((-1 : Int32), (sI σ 565 0 (0 : Int32)))
  else
    (f_Model_isIn (sI σ 565 0 (0 : Int32)) ((x2).toInt64) (0 : Int64) (60 : Int64)).bind fun q3 =>
    if q3 = (0 : Int32) then
      some ((-1 : Int32), (sI σ 565 0 (0 : Int32)))
    else
      (f_Model_laysTrial (sI σ 565 0 (0 : Int32)) x2).bind fun q5 =>
      if inb ((24 : Int32) + x1) 131 then
        some ((mI q5 579 ((24 : Int32) + x1).toNatClampNeg), q5)
      else none
set_option maxHeartbeats 4000000 in
set_option maxRecDepth 20000 in
theorem g_Model_purse (X : Cx θ p s m args c cX11_purse 3 RX11) (hr : meth.sig.returnType = some .int) (hlk : meth.locks = false)  {σ : Mem} {x1 : Int32} {x2 : Int32} {r : Int32 × Mem}  (h : f_Model_purse σ x1 x2 = some r) : GB θ p l e 67 s m args below meth c 3 (some (.int r.1), r.2) 0 [(0, .ref (be θ + 565)), (1, .int x1), (2, .int x2)] [] σ := by
  unfold f_Model_purse at h
  refine g_aload_n X dX11_purse_0 rfl 0 rfl ?_
  refine g_iconst X dX11_purse_1 (v := (0 : Int32)) ic_0 ?_
  refine g_putI X fl_RX11_112 dX11_purse_2 kd_565 rfl rfl rfl ?_
  refine g_aload_n X dX11_purse_5 rfl 0 rfl ?_
  refine g_iload_n X dX11_purse_6 rfl 1 rfl ?_
  obtain ⟨q1, hq1, h⟩ := Option.bind_eq_some_iff.mp h
  refine g_cV X (c_Model_isBuyer  hq1) lk_RX11_412 my_X11_isBuyer (a := 565) (ci := 11) kd_565 (by decide) rfl (As := [.int x1]) (rest := []) rfl rfl (Nat.le_of_ble_eq_true rfl) ⟨(Nat.le_of_ble_eq_true rfl), (Nat.le_of_ble_eq_true rfl)⟩ ⟨(Nat.le_of_ble_eq_true rfl), (Nat.le_of_ble_eq_true rfl)⟩ dX11_purse_7 (st' := [.int q1]) (σ' := (sI σ 565 0 (0 : Int32))) rfl rfl ?_
  refine g_if_eq (tgt := 25) X dX11_purse_10 (by decide) (fun c2 => ?_) (fun c2 => ?_)
  · replace h := (if_pos c2).symm.trans h
    refine g_iconst X dX11_purse_25 (v := (-1 : Int32)) ic_m1 ?_
    exact g_iret X hr hlk dX11_purse_26 (by cases h; rfl)
  · replace h := (if_neg c2).symm.trans h
    refine g_iload_n X dX11_purse_13 rfl 2 rfl ?_
    refine g_i2l X dX11_purse_14 (v := ((x2).toInt64)) rfl ?_
    refine g_lconst X dX11_purse_15 (v := (0 : Int64)) rfl ?_
    refine g_ldc2 X cst_RX11_474 dX11_purse_16 ?_
    obtain ⟨q3, hq3, h⟩ := Option.bind_eq_some_iff.mp h
    refine g_cS X (c_Model_isIn  hq3) lk_RX11_233 my_X11_isIn (As := [.long ((x2).toInt64), .long (0 : Int64), .long (60 : Int64)]) (rest := []) rfl rfl (Nat.le_of_ble_eq_true rfl) ⟨(Nat.le_of_ble_eq_true rfl), (Nat.le_of_ble_eq_true rfl)⟩ ⟨(Nat.le_of_ble_eq_true rfl), (Nat.le_of_ble_eq_true rfl)⟩ dX11_purse_19 (st' := [.int q3]) (σ' := (sI σ 565 0 (0 : Int32))) rfl rfl ?_
    refine g_if_ne (tgt := 27) X dX11_purse_22 (by decide) (fun c4 => ?_) (fun c4 => ?_)
    · replace h := (if_neg c4).symm.trans h
      refine g_aload_n X dX11_purse_27 rfl 0 rfl ?_
      refine g_iload_n X dX11_purse_28 rfl 2 rfl ?_
      obtain ⟨q5, hq5, h⟩ := Option.bind_eq_some_iff.mp h
      refine g_cV X (c_Model_laysTrial  hq5) lk_RX11_476 my_X11_laysTrial (a := 565) (ci := 11) kd_565 (by decide) rfl (As := [.int x2]) (rest := []) rfl rfl (Nat.le_of_ble_eq_true rfl) ⟨(Nat.le_of_ble_eq_true rfl), (Nat.le_of_ble_eq_true rfl)⟩ ⟨(Nat.le_of_ble_eq_true rfl), (Nat.le_of_ble_eq_true rfl)⟩ dX11_purse_29 (st' := []) (σ' := q5) rfl rfl ?_
      refine g_aload_n X dX11_purse_32 rfl 0 rfl ?_
      refine g_get X fl_RX11_64 dX11_purse_33 kd_565 (v := .ref (be θ + 579)) rfl ?_
      refine g_bipush X dX11_purse_36 (v := (24 : Int32)) bp_24 ?_
      refine g_iload_n X dX11_purse_38 rfl 1 rfl ?_
      refine g_iadd X dX11_purse_39 ?_
      obtain ⟨g6, h⟩ := ite_some h
      refine g_iald X kd_579 ln_579 (inb_in g6) dX11_purse_40 ?_
      exact g_iret X hr hlk dX11_purse_41 (by cases h; rfl)
    · replace h := (if_pos c4).symm.trans h
      refine g_iconst X dX11_purse_25 (v := (-1 : Int32)) ic_m1 ?_
      exact g_iret X hr hlk dX11_purse_26 (by cases h; rfl)
set_option maxHeartbeats 4000000 in
set_option maxRecDepth 20000 in
theorem c_Model_purse {θ : Th} {l : Launch} {σ : Mem} {x1 : Int32} {x2 : Int32} {r : Int32 × Mem}  (h : f_Model_purse σ x1 x2 = some r) : Cn θ l yX11_purse cX11_purse 3 (some .int) 67 0 0 [.ref (be θ + 565), .int x1, .int x2] σ (some (.int r.1), r.2) :=
  Cn.of (by decide) (Nat.le_of_ble_eq_true rfl) (fun p e s m below meth c X hr hlk => g_Model_purse X hr hlk  h)
end Z16
