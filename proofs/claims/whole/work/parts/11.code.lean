section Z11
variable {θ : Th} {p : Program} {l : Launch} {e : Env} {s : State} {m : MethodId} {args : Array Value} {below : List Frame} {meth : Method} {c : Code}
theorem dX4_keep_0 : decode cX4_keep 0 = .ok (.aload_n 0, 1) := by decide +kernel
theorem dX4_keep_1 : decode cX4_keep 1 = .ok (.getfield 11, 3) := by decide +kernel
theorem dX4_keep_4 : decode cX4_keep 4 = .ok (.aload_n 0, 1) := by decide +kernel
theorem dX4_keep_5 : decode cX4_keep 5 = .ok (.getfield 17, 3) := by decide +kernel
theorem dX4_keep_8 : decode cX4_keep 8 = .ok (.aload_n 0, 1) := by decide +kernel
theorem dX4_keep_9 : decode cX4_keep 9 = .ok (.getfield 21, 3) := by decide +kernel
theorem dX4_keep_12 : decode cX4_keep 12 = .ok (.iadd, 1) := by decide +kernel
theorem dX4_keep_13 : decode cX4_keep 13 = .ok (.bipush 40, 2) := by decide +kernel
theorem dX4_keep_15 : decode cX4_keep 15 = .ok (.irem, 1) := by decide +kernel
theorem dX4_keep_16 : decode cX4_keep 16 = .ok (.aaload, 1) := by decide +kernel
theorem dX4_keep_17 : decode cX4_keep 17 = .ok (.aload_n 1, 1) := by decide +kernel
theorem dX4_keep_18 : decode cX4_keep 18 = .ok (.invokevirtual 25, 3) := by decide +kernel
theorem dX4_keep_21 : decode cX4_keep 21 = .ok (.aload_n 0, 1) := by decide +kernel
theorem dX4_keep_22 : decode cX4_keep 22 = .ok (.getfield 21, 3) := by decide +kernel
theorem dX4_keep_25 : decode cX4_keep 25 = .ok (.bipush 40, 2) := by decide +kernel
theorem dX4_keep_27 : decode cX4_keep 27 = .ok (.if_icmp .ge 16, 3) := by decide +kernel
theorem dX4_keep_30 : decode cX4_keep 30 = .ok (.aload_n 0, 1) := by decide +kernel
theorem dX4_keep_31 : decode cX4_keep 31 = .ok (.dup, 1) := by decide +kernel
theorem dX4_keep_32 : decode cX4_keep 32 = .ok (.getfield 21, 3) := by decide +kernel
theorem dX4_keep_35 : decode cX4_keep 35 = .ok (.iconst 1, 1) := by decide +kernel
theorem dX4_keep_36 : decode cX4_keep 36 = .ok (.iadd, 1) := by decide +kernel
theorem dX4_keep_37 : decode cX4_keep 37 = .ok (.putfield 21, 3) := by decide +kernel
theorem dX4_keep_40 : decode cX4_keep 40 = .ok (.goto 16, 3) := by decide +kernel
theorem dX4_keep_43 : decode cX4_keep 43 = .ok (.aload_n 0, 1) := by decide +kernel
theorem dX4_keep_44 : decode cX4_keep 44 = .ok (.aload_n 0, 1) := by decide +kernel
theorem dX4_keep_45 : decode cX4_keep 45 = .ok (.getfield 17, 3) := by decide +kernel
theorem dX4_keep_48 : decode cX4_keep 48 = .ok (.iconst 1, 1) := by decide +kernel
theorem dX4_keep_49 : decode cX4_keep 49 = .ok (.iadd, 1) := by decide +kernel
theorem dX4_keep_50 : decode cX4_keep 50 = .ok (.bipush 40, 2) := by decide +kernel
theorem dX4_keep_52 : decode cX4_keep 52 = .ok (.irem, 1) := by decide +kernel
theorem dX4_keep_53 : decode cX4_keep 53 = .ok (.putfield 17, 3) := by decide +kernel
theorem dX4_keep_56 : decode cX4_keep 56 = .ok (.return_, 1) := by decide +kernel
def f_History_keep (σ : Mem) (x1 : Nat) : Option (Mem) :=
  if inb (((mI σ 26 1) + (mI σ 26 2)) - ((mI σ 26 1) + (mI σ 26 2)) / (40 : Int32) * (40 : Int32)) 40 then
    (f_State_copyFrom σ (ra 27 ((((mI σ 26 1) + (mI σ 26 2)) - ((mI σ 26 1) + (mI σ 26 2)) / (40 : Int32) * (40 : Int32)).toNatClampNeg)) x1).bind fun q2 =>
    if (40 : Int32) ≤ (mI q2 26 2) then
      some (sI q2 26 1 (((mI q2 26 1) + (1 : Int32)) - ((mI q2 26 1) + (1 : Int32)) / (40 : Int32) * (40 : Int32)))
    else
      some (sI q2 26 2 ((mI q2 26 2) + (1 : Int32)))
  else none
set_option maxHeartbeats 4000000 in
set_option maxRecDepth 20000 in
theorem g_History_keep (X : Cx θ p s m args c cX4_keep 2 RX4) (hr : meth.sig.returnType = none) (hlk : meth.locks = false)  {σ : Mem} {x1 : Nat} {r : Mem} (h1 : kd x1 = 8) (h : f_History_keep σ x1 = some r) : GB θ p l e 2 s m args below meth c 2 (none, r) 0 [(0, .ref (be θ + 26)), (1, .ref (be θ + x1))] [] σ := by
  unfold f_History_keep at h
  refine g_aload_n X dX4_keep_0 rfl 0 rfl ?_
  refine g_get X fl_RX4_11 dX4_keep_1 kd_26 (v := .ref (be θ + 27)) rfl ?_
  refine g_aload_n X dX4_keep_4 rfl 0 rfl ?_
  refine g_get X fl_RX4_17 dX4_keep_5 kd_26 (v := .int (mI σ 26 1)) rfl ?_
  refine g_aload_n X dX4_keep_8 rfl 0 rfl ?_
  refine g_get X fl_RX4_21 dX4_keep_9 kd_26 (v := .int (mI σ 26 2)) rfl ?_
  refine g_iadd X dX4_keep_12 ?_
  refine g_bipush X dX4_keep_13 (v := (40 : Int32)) bp_40 ?_
  refine g_irem X dX4_keep_15 (by decide) ?_
  obtain ⟨g1, h⟩ := ite_some h
  refine g_aald X kd_27 (by decide) ln_27 (inb_in g1) dX4_keep_16 ?_
  refine g_aload_n X dX4_keep_17 rfl 1 rfl ?_
  obtain ⟨q2, hq2, h⟩ := Option.bind_eq_some_iff.mp h
  refine g_cV X (c_State_copyFrom (ra_27 (in_lt (inb_in g1))) h1 hq2) lk_RX4_25 my_X7_copyFrom (a := (ra 27 ((((mI σ 26 1) + (mI σ 26 2)) - ((mI σ 26 1) + (mI σ 26 2)) / (40 : Int32) * (40 : Int32)).toNatClampNeg))) (ci := 7) (ra_27 (in_lt (inb_in g1))) (by decide) rfl (As := [.ref (be θ + x1)]) (rest := []) rfl rfl (Nat.le_of_ble_eq_true rfl) ⟨(Nat.le_of_ble_eq_true rfl), (Nat.le_of_ble_eq_true rfl)⟩ ⟨(Nat.le_of_ble_eq_true rfl), (Nat.le_of_ble_eq_true rfl)⟩ dX4_keep_18 (st' := []) (σ' := q2) rfl rfl ?_
  refine g_aload_n X dX4_keep_21 rfl 0 rfl ?_
  refine g_get X fl_RX4_21 dX4_keep_22 kd_26 (v := .int (mI q2 26 2)) rfl ?_
  refine g_bipush X dX4_keep_25 (v := (40 : Int32)) bp_40 ?_
  refine g_icmp_ge (tgt := 43) X dX4_keep_27 (by decide) (fun c3 => ?_) (fun c3 => ?_)
  · replace h := (if_pos c3).symm.trans h
    refine g_aload_n X dX4_keep_43 rfl 0 rfl ?_
    refine g_aload_n X dX4_keep_44 rfl 0 rfl ?_
    refine g_get X fl_RX4_17 dX4_keep_45 kd_26 (v := .int (mI q2 26 1)) rfl ?_
    refine g_iconst X dX4_keep_48 (v := (1 : Int32)) ic_1 ?_
    refine g_iadd X dX4_keep_49 ?_
    refine g_bipush X dX4_keep_50 (v := (40 : Int32)) bp_40 ?_
    refine g_irem X dX4_keep_52 (by decide) ?_
    refine g_putI X fl_RX4_17 dX4_keep_53 kd_26 rfl rfl rfl ?_
    exact g_vret X hr hlk dX4_keep_56 (by cases h; rfl)
  · replace h := (if_neg c3).symm.trans h
    refine g_aload_n X dX4_keep_30 rfl 0 rfl ?_
    refine g_dup X dX4_keep_31 rfl ?_
    refine g_get X fl_RX4_21 dX4_keep_32 kd_26 (v := .int (mI q2 26 2)) rfl ?_
    refine g_iconst X dX4_keep_35 (v := (1 : Int32)) ic_1 ?_
    refine g_iadd X dX4_keep_36 ?_
    refine g_putI X fl_RX4_21 dX4_keep_37 kd_26 rfl rfl rfl ?_
    refine g_goto (tgt := 56) X dX4_keep_40 (by decide) ?_
    exact g_vret X hr hlk dX4_keep_56 (by cases h; rfl)
set_option maxHeartbeats 4000000 in
set_option maxRecDepth 20000 in
theorem c_History_keep {θ : Th} {l : Launch} {σ : Mem} {x1 : Nat} {r : Mem} (h1 : kd x1 = 8) (h : f_History_keep σ x1 = some r) : Cn θ l yX4_keep cX4_keep 2 (none) 2 0 0 [.ref (be θ + 26), .ref (be θ + x1)] σ (none, r) :=
  Cn.of (by decide) (Nat.le_of_ble_eq_true rfl) (fun p e s m below meth c X hr hlk => g_History_keep X hr hlk h1 h)
theorem dX4_restore_0 : decode cX4_restore 0 = .ok (.aload_n 0, 1) := by decide +kernel
theorem dX4_restore_1 : decode cX4_restore 1 = .ok (.getfield 21, 3) := by decide +kernel
theorem dX4_restore_4 : decode cX4_restore 4 = .ok (.ifCond .le 34, 3) := by decide +kernel
theorem dX4_restore_7 : decode cX4_restore 7 = .ok (.aload_n 0, 1) := by decide +kernel
theorem dX4_restore_8 : decode cX4_restore 8 = .ok (.dup, 1) := by decide +kernel
theorem dX4_restore_9 : decode cX4_restore 9 = .ok (.getfield 21, 3) := by decide +kernel
theorem dX4_restore_12 : decode cX4_restore 12 = .ok (.iconst 1, 1) := by decide +kernel
theorem dX4_restore_13 : decode cX4_restore 13 = .ok (.isub, 1) := by decide +kernel
theorem dX4_restore_14 : decode cX4_restore 14 = .ok (.putfield 21, 3) := by decide +kernel
theorem dX4_restore_17 : decode cX4_restore 17 = .ok (.aload_n 1, 1) := by decide +kernel
theorem dX4_restore_18 : decode cX4_restore 18 = .ok (.aload_n 0, 1) := by decide +kernel
theorem dX4_restore_19 : decode cX4_restore 19 = .ok (.getfield 11, 3) := by decide +kernel
theorem dX4_restore_22 : decode cX4_restore 22 = .ok (.aload_n 0, 1) := by decide +kernel
theorem dX4_restore_23 : decode cX4_restore 23 = .ok (.getfield 17, 3) := by decide +kernel
theorem dX4_restore_26 : decode cX4_restore 26 = .ok (.aload_n 0, 1) := by decide +kernel
theorem dX4_restore_27 : decode cX4_restore 27 = .ok (.getfield 21, 3) := by decide +kernel
theorem dX4_restore_30 : decode cX4_restore 30 = .ok (.iadd, 1) := by decide +kernel
theorem dX4_restore_31 : decode cX4_restore 31 = .ok (.bipush 40, 2) := by decide +kernel
theorem dX4_restore_33 : decode cX4_restore 33 = .ok (.irem, 1) := by decide +kernel
theorem dX4_restore_34 : decode cX4_restore 34 = .ok (.aaload, 1) := by decide +kernel
theorem dX4_restore_35 : decode cX4_restore 35 = .ok (.invokevirtual 25, 3) := by decide +kernel
theorem dX4_restore_38 : decode cX4_restore 38 = .ok (.return_, 1) := by decide +kernel
def f_History_restore (σ : Mem) (x1 : Nat) : Option (Mem) :=
  if (mI σ 26 2) ≤ (0 : Int32) then
    some σ
  else
    if inb (((mI (sI σ 26 2 ((mI σ 26 2) - (1 : Int32))) 26 1) + (mI (sI σ 26 2 ((mI σ 26 2) - (1 : Int32))) 26 2)) - ((mI (sI σ 26 2 ((mI σ 26 2) - (1 : Int32))) 26 1) + (mI (sI σ 26 2 ((mI σ 26 2) - (1 : Int32))) 26 2)) / (40 : Int32) * (40 : Int32)) 40 then
      (f_State_copyFrom (sI σ 26 2 ((mI σ 26 2) - (1 : Int32))) x1 (ra 27 ((((mI (sI σ 26 2 ((mI σ 26 2) - (1 : Int32))) 26 1) + (mI (sI σ 26 2 ((mI σ 26 2) - (1 : Int32))) 26 2)) - ((mI (sI σ 26 2 ((mI σ 26 2) - (1 : Int32))) 26 1) + (mI (sI σ 26 2 ((mI σ 26 2) - (1 : Int32))) 26 2)) / (40 : Int32) * (40 : Int32)).toNatClampNeg))).bind fun q3 =>
      some q3
    else none
set_option maxHeartbeats 4000000 in
set_option maxRecDepth 20000 in
theorem g_History_restore (X : Cx θ p s m args c cX4_restore 2 RX4) (hr : meth.sig.returnType = none) (hlk : meth.locks = false)  {σ : Mem} {x1 : Nat} {r : Mem} (h1 : kd x1 = 8) (h : f_History_restore σ x1 = some r) : GB θ p l e 2 s m args below meth c 2 (none, r) 0 [(0, .ref (be θ + 26)), (1, .ref (be θ + x1))] [] σ := by
  unfold f_History_restore at h
  refine g_aload_n X dX4_restore_0 rfl 0 rfl ?_
  refine g_get X fl_RX4_21 dX4_restore_1 kd_26 (v := .int (mI σ 26 2)) rfl ?_
  refine g_if_le (tgt := 38) X dX4_restore_4 (by decide) (fun c1 => ?_) (fun c1 => ?_)
  · replace h := (if_pos c1).symm.trans h
    exact g_vret X hr hlk dX4_restore_38 (by cases h; rfl)
  · replace h := (if_neg c1).symm.trans h
    refine g_aload_n X dX4_restore_7 rfl 0 rfl ?_
    refine g_dup X dX4_restore_8 rfl ?_
    refine g_get X fl_RX4_21 dX4_restore_9 kd_26 (v := .int (mI σ 26 2)) rfl ?_
    refine g_iconst X dX4_restore_12 (v := (1 : Int32)) ic_1 ?_
    refine g_isub X dX4_restore_13 ?_
    refine g_putI X fl_RX4_21 dX4_restore_14 kd_26 rfl rfl rfl ?_
    refine g_aload_n X dX4_restore_17 rfl 1 rfl ?_
    refine g_aload_n X dX4_restore_18 rfl 0 rfl ?_
    refine g_get X fl_RX4_11 dX4_restore_19 kd_26 (v := .ref (be θ + 27)) rfl ?_
    refine g_aload_n X dX4_restore_22 rfl 0 rfl ?_
    refine g_get X fl_RX4_17 dX4_restore_23 kd_26 (v := .int (mI (sI σ 26 2 ((mI σ 26 2) - (1 : Int32))) 26 1)) rfl ?_
    refine g_aload_n X dX4_restore_26 rfl 0 rfl ?_
    refine g_get X fl_RX4_21 dX4_restore_27 kd_26 (v := .int (mI (sI σ 26 2 ((mI σ 26 2) - (1 : Int32))) 26 2)) rfl ?_
    refine g_iadd X dX4_restore_30 ?_
    refine g_bipush X dX4_restore_31 (v := (40 : Int32)) bp_40 ?_
    refine g_irem X dX4_restore_33 (by decide) ?_
    obtain ⟨g2, h⟩ := ite_some h
    refine g_aald X kd_27 (by decide) ln_27 (inb_in g2) dX4_restore_34 ?_
    obtain ⟨q3, hq3, h⟩ := Option.bind_eq_some_iff.mp h
    refine g_cV X (c_State_copyFrom h1 (ra_27 (in_lt (inb_in g2))) hq3) lk_RX4_25 my_X7_copyFrom (a := x1) (ci := 7) h1 (by decide) rfl (As := [.ref (be θ + (ra 27 ((((mI (sI σ 26 2 ((mI σ 26 2) - (1 : Int32))) 26 1) + (mI (sI σ 26 2 ((mI σ 26 2) - (1 : Int32))) 26 2)) - ((mI (sI σ 26 2 ((mI σ 26 2) - (1 : Int32))) 26 1) + (mI (sI σ 26 2 ((mI σ 26 2) - (1 : Int32))) 26 2)) / (40 : Int32) * (40 : Int32)).toNatClampNeg)))]) (rest := []) rfl rfl (Nat.le_of_ble_eq_true rfl) ⟨(Nat.le_of_ble_eq_true rfl), (Nat.le_of_ble_eq_true rfl)⟩ ⟨(Nat.le_of_ble_eq_true rfl), (Nat.le_of_ble_eq_true rfl)⟩ dX4_restore_35 (st' := []) (σ' := q3) rfl rfl ?_
    exact g_vret X hr hlk dX4_restore_38 (by cases h; rfl)
set_option maxHeartbeats 4000000 in
set_option maxRecDepth 20000 in
theorem c_History_restore {θ : Th} {l : Launch} {σ : Mem} {x1 : Nat} {r : Mem} (h1 : kd x1 = 8) (h : f_History_restore σ x1 = some r) : Cn θ l yX4_restore cX4_restore 2 (none) 2 0 0 [.ref (be θ + 26), .ref (be θ + x1)] σ (none, r) :=
  Cn.of (by decide) (Nat.le_of_ble_eq_true rfl) (fun p e s m below meth c X hr hlk => g_History_restore X hr hlk h1 h)
theorem dX4_forget_0 : decode cX4_forget 0 = .ok (.aload_n 0, 1) := by decide +kernel
theorem dX4_forget_1 : decode cX4_forget 1 = .ok (.iconst 0, 1) := by decide +kernel
theorem dX4_forget_2 : decode cX4_forget 2 = .ok (.putfield 17, 3) := by decide +kernel
theorem dX4_forget_5 : decode cX4_forget 5 = .ok (.aload_n 0, 1) := by decide +kernel
theorem dX4_forget_6 : decode cX4_forget 6 = .ok (.iconst 0, 1) := by decide +kernel
theorem dX4_forget_7 : decode cX4_forget 7 = .ok (.putfield 21, 3) := by decide +kernel
theorem dX4_forget_10 : decode cX4_forget 10 = .ok (.return_, 1) := by decide +kernel
def f_History_forget (σ : Mem)  : Option (Mem) :=
  some (sI (sI σ 26 1 (0 : Int32)) 26 2 (0 : Int32))
set_option maxHeartbeats 4000000 in
set_option maxRecDepth 20000 in
theorem g_History_forget (X : Cx θ p s m args c cX4_forget 1 RX4) (hr : meth.sig.returnType = none) (hlk : meth.locks = false)  {σ : Mem}  {r : Mem}  (h : f_History_forget σ  = some r) : GB θ p l e 0 s m args below meth c 1 (none, r) 0 [(0, .ref (be θ + 26))] [] σ := by
  unfold f_History_forget at h
  refine g_aload_n X dX4_forget_0 rfl 0 rfl ?_
  refine g_iconst X dX4_forget_1 (v := (0 : Int32)) ic_0 ?_
  refine g_putI X fl_RX4_17 dX4_forget_2 kd_26 rfl rfl rfl ?_
  refine g_aload_n X dX4_forget_5 rfl 0 rfl ?_
  refine g_iconst X dX4_forget_6 (v := (0 : Int32)) ic_0 ?_
  refine g_putI X fl_RX4_21 dX4_forget_7 kd_26 rfl rfl rfl ?_
  exact g_vret X hr hlk dX4_forget_10 (by cases h; rfl)
set_option maxHeartbeats 4000000 in
set_option maxRecDepth 20000 in
theorem c_History_forget {θ : Th} {l : Launch} {σ : Mem}  {r : Mem}  (h : f_History_forget σ  = some r) : Cn θ l yX4_forget cX4_forget 1 (none) 0 0 0 [.ref (be θ + 26)] σ (none, r) :=
  Cn.of (by decide) (Nat.le_of_ble_eq_true rfl) (fun p e s m below meth c X hr hlk => g_History_forget X hr hlk  h)
theorem dX5_put_0 : decode cX5_put 0 = .ok (.aload_n 0, 1) := by decide +kernel
theorem dX5_put_1 : decode cX5_put 1 = .ok (.getfield 18, 3) := by decide +kernel
theorem dX5_put_4 : decode cX5_put 4 = .ok (.sipush 240, 3) := by decide +kernel
theorem dX5_put_7 : decode cX5_put 7 = .ok (.if_icmp .ge 23, 3) := by decide +kernel
theorem dX5_put_10 : decode cX5_put 10 = .ok (.aload_n 0, 1) := by decide +kernel
theorem dX5_put_11 : decode cX5_put 11 = .ok (.getfield 9, 3) := by decide +kernel
theorem dX5_put_14 : decode cX5_put 14 = .ok (.aload_n 0, 1) := by decide +kernel
theorem dX5_put_15 : decode cX5_put 15 = .ok (.getfield 18, 3) := by decide +kernel
theorem dX5_put_18 : decode cX5_put 18 = .ok (.iload_n 1, 1) := by decide +kernel
theorem dX5_put_19 : decode cX5_put 19 = .ok (.iastore, 1) := by decide +kernel
theorem dX5_put_20 : decode cX5_put 20 = .ok (.aload_n 0, 1) := by decide +kernel
theorem dX5_put_21 : decode cX5_put 21 = .ok (.dup, 1) := by decide +kernel
theorem dX5_put_22 : decode cX5_put 22 = .ok (.getfield 18, 3) := by decide +kernel
theorem dX5_put_25 : decode cX5_put 25 = .ok (.iconst 1, 1) := by decide +kernel
theorem dX5_put_26 : decode cX5_put 26 = .ok (.iadd, 1) := by decide +kernel
theorem dX5_put_27 : decode cX5_put 27 = .ok (.putfield 18, 3) := by decide +kernel
theorem dX5_put_30 : decode cX5_put 30 = .ok (.return_, 1) := by decide +kernel
def f_Law_put (σ : Mem) (x0 : Nat) (x1 : Int32) : Option (Mem) :=
  if (240 : Int32) ≤ (mI σ x0 2) then
    some σ
  else
    if inb (mI σ x0 2) 240 then
      some (sI (sI σ (x0 + 1) (mI σ x0 2).toNatClampNeg x1) x0 2 ((mI (sI σ (x0 + 1) (mI σ x0 2).toNatClampNeg x1) x0 2) + (1 : Int32)))
    else none
set_option maxHeartbeats 4000000 in
set_option maxRecDepth 20000 in
theorem g_Law_put (X : Cx θ p s m args c cX5_put 2 RX5) (hr : meth.sig.returnType = none) (hlk : meth.locks = false)  {σ : Mem} {x0 : Nat} {x1 : Int32} {r : Mem} (h0 : kd x0 = 6) (h : f_Law_put σ x0 x1 = some r) : GB θ p l e 0 s m args below meth c 2 (none, r) 0 [(0, .ref (be θ + x0)), (1, .int x1)] [] σ := by
  unfold f_Law_put at h
  refine g_aload_n X dX5_put_0 rfl 0 rfl ?_
  refine g_get X fl_RX5_18 dX5_put_1 h0 (v := .int (mI σ x0 2)) rfl ?_
  refine g_sipush X dX5_put_4 (v := (240 : Int32)) sp_240 ?_
  refine g_icmp_ge (tgt := 30) X dX5_put_7 (by decide) (fun c1 => ?_) (fun c1 => ?_)
  · replace h := (if_pos c1).symm.trans h
    exact g_vret X hr hlk dX5_put_30 (by cases h; rfl)
  · replace h := (if_neg c1).symm.trans h
    refine g_aload_n X dX5_put_10 rfl 0 rfl ?_
    refine g_get X fl_RX5_9 dX5_put_11 h0 (v := .ref (be θ + (x0 + 1))) rfl ?_
    refine g_aload_n X dX5_put_14 rfl 0 rfl ?_
    refine g_get X fl_RX5_18 dX5_put_15 h0 (v := .int (mI σ x0 2)) rfl ?_
    refine g_iload_n X dX5_put_18 rfl 1 rfl ?_
    obtain ⟨g2, h⟩ := ite_some h
    refine g_iast X (lk5_0 h0).1 (lk5_0 h0).2 (inb_in g2) dX5_put_19 ?_
    refine g_aload_n X dX5_put_20 rfl 0 rfl ?_
    refine g_dup X dX5_put_21 rfl ?_
    refine g_get X fl_RX5_18 dX5_put_22 h0 (v := .int (mI (sI σ (x0 + 1) (mI σ x0 2).toNatClampNeg x1) x0 2)) rfl ?_
    refine g_iconst X dX5_put_25 (v := (1 : Int32)) ic_1 ?_
    refine g_iadd X dX5_put_26 ?_
    refine g_putI X fl_RX5_18 dX5_put_27 h0 rfl rfl rfl ?_
    exact g_vret X hr hlk dX5_put_30 (by cases h; rfl)
set_option maxHeartbeats 4000000 in
set_option maxRecDepth 20000 in
theorem c_Law_put {θ : Th} {l : Launch} {σ : Mem} {x0 : Nat} {x1 : Int32} {r : Mem} (h0 : kd x0 = 6) (h : f_Law_put σ x0 x1 = some r) : Cn θ l yX5_put cX5_put 2 (none) 0 0 0 [.ref (be θ + x0), .int x1] σ (none, r) :=
  Cn.of (by decide) (Nat.le_of_ble_eq_true rfl) (fun p e s m below meth c X hr hlk => g_Law_put X hr hlk h0 h)
theorem dX5_sumReads_0 : decode cX5_sumReads 0 = .ok (.aload_n 0, 1) := by decide +kernel
theorem dX5_sumReads_1 : decode cX5_sumReads 1 = .ok (.aload_n 1, 1) := by decide +kernel
theorem dX5_sumReads_2 : decode cX5_sumReads 2 = .ok (.iload_n 2, 1) := by decide +kernel
theorem dX5_sumReads_3 : decode cX5_sumReads 3 = .ok (.invokevirtual 71, 3) := by decide +kernel
theorem dX5_sumReads_6 : decode cX5_sumReads 6 = .ok (.ifCond .ne 5, 3) := by decide +kernel
theorem dX5_sumReads_9 : decode cX5_sumReads 9 = .ok (.iconst 0, 1) := by decide +kernel
theorem dX5_sumReads_10 : decode cX5_sumReads 10 = .ok (.ireturn, 1) := by decide +kernel
theorem dX5_sumReads_11 : decode cX5_sumReads 11 = .ok (.iconst 0, 1) := by decide +kernel
theorem dX5_sumReads_12 : decode cX5_sumReads 12 = .ok (.istore_n 3, 1) := by decide +kernel
theorem dX5_sumReads_13 : decode cX5_sumReads 13 = .ok (.iload_n 3, 1) := by decide +kernel
theorem dX5_sumReads_14 : decode cX5_sumReads 14 = .ok (.sipush 240, 3) := by decide +kernel
theorem dX5_sumReads_17 : decode cX5_sumReads 17 = .ok (.if_icmp .ge 59, 3) := by decide +kernel
theorem dX5_sumReads_20 : decode cX5_sumReads 20 = .ok (.aload_n 1, 1) := by decide +kernel
theorem dX5_sumReads_21 : decode cX5_sumReads 21 = .ok (.invokevirtual 31, 3) := by decide +kernel
theorem dX5_sumReads_24 : decode cX5_sumReads 24 = .ok (.istore 4, 2) := by decide +kernel
theorem dX5_sumReads_26 : decode cX5_sumReads 26 = .ok (.iload 4, 2) := by decide +kernel
theorem dX5_sumReads_28 : decode cX5_sumReads 28 = .ok (.bipush 43, 2) := by decide +kernel
theorem dX5_sumReads_30 : decode cX5_sumReads 30 = .ok (.if_icmp .eq 12, 3) := by decide +kernel
theorem dX5_sumReads_33 : decode cX5_sumReads 33 = .ok (.iload 4, 2) := by decide +kernel
theorem dX5_sumReads_35 : decode cX5_sumReads 35 = .ok (.bipush 45, 2) := by decide +kernel
theorem dX5_sumReads_37 : decode cX5_sumReads 37 = .ok (.if_icmp .eq 5, 3) := by decide +kernel
theorem dX5_sumReads_40 : decode cX5_sumReads 40 = .ok (.iconst 1, 1) := by decide +kernel
theorem dX5_sumReads_41 : decode cX5_sumReads 41 = .ok (.ireturn, 1) := by decide +kernel
theorem dX5_sumReads_42 : decode cX5_sumReads 42 = .ok (.aload_n 1, 1) := by decide +kernel
theorem dX5_sumReads_43 : decode cX5_sumReads 43 = .ok (.dup, 1) := by decide +kernel
theorem dX5_sumReads_44 : decode cX5_sumReads 44 = .ok (.getfield 22, 3) := by decide +kernel
theorem dX5_sumReads_47 : decode cX5_sumReads 47 = .ok (.iconst 1, 1) := by decide +kernel
theorem dX5_sumReads_48 : decode cX5_sumReads 48 = .ok (.iadd, 1) := by decide +kernel
theorem dX5_sumReads_49 : decode cX5_sumReads 49 = .ok (.putfield 22, 3) := by decide +kernel
theorem dX5_sumReads_52 : decode cX5_sumReads 52 = .ok (.aload_n 0, 1) := by decide +kernel
theorem dX5_sumReads_53 : decode cX5_sumReads 53 = .ok (.aload_n 1, 1) := by decide +kernel
theorem dX5_sumReads_54 : decode cX5_sumReads 54 = .ok (.iload_n 2, 1) := by decide +kernel
theorem dX5_sumReads_55 : decode cX5_sumReads 55 = .ok (.invokevirtual 71, 3) := by decide +kernel
theorem dX5_sumReads_58 : decode cX5_sumReads 58 = .ok (.ifCond .ne 5, 3) := by decide +kernel
theorem dX5_sumReads_61 : decode cX5_sumReads 61 = .ok (.iconst 0, 1) := by decide +kernel
theorem dX5_sumReads_62 : decode cX5_sumReads 62 = .ok (.ireturn, 1) := by decide +kernel
theorem dX5_sumReads_63 : decode cX5_sumReads 63 = .ok (.aload_n 0, 1) := by decide +kernel
theorem dX5_sumReads_64 : decode cX5_sumReads 64 = .ok (.iload 4, 2) := by decide +kernel
theorem dX5_sumReads_66 : decode cX5_sumReads 66 = .ok (.ineg, 1) := by decide +kernel
theorem dX5_sumReads_67 : decode cX5_sumReads 67 = .ok (.invokevirtual 52, 3) := by decide +kernel
theorem dX5_sumReads_70 : decode cX5_sumReads 70 = .ok (.iinc 3 1, 3) := by decide +kernel
theorem dX5_sumReads_73 : decode cX5_sumReads 73 = .ok (.goto (-60), 3) := by decide +kernel
theorem dX5_sumReads_76 : decode cX5_sumReads 76 = .ok (.iconst 0, 1) := by decide +kernel
theorem dX5_sumReads_77 : decode cX5_sumReads 77 = .ok (.ireturn, 1) := by decide +kernel
theorem dX5_termReads_0 : decode cX5_termReads 0 = .ok (.aload_n 0, 1) := by decide +kernel
theorem dX5_termReads_1 : decode cX5_termReads 1 = .ok (.aload_n 1, 1) := by decide +kernel
theorem dX5_termReads_2 : decode cX5_termReads 2 = .ok (.iload_n 2, 1) := by decide +kernel
theorem dX5_termReads_3 : decode cX5_termReads 3 = .ok (.invokevirtual 74, 3) := by decide +kernel
theorem dX5_termReads_6 : decode cX5_termReads 6 = .ok (.ifCond .ne 5, 3) := by decide +kernel
theorem dX5_termReads_9 : decode cX5_termReads 9 = .ok (.iconst 0, 1) := by decide +kernel
theorem dX5_termReads_10 : decode cX5_termReads 10 = .ok (.ireturn, 1) := by decide +kernel
theorem dX5_termReads_11 : decode cX5_termReads 11 = .ok (.iconst 0, 1) := by decide +kernel
theorem dX5_termReads_12 : decode cX5_termReads 12 = .ok (.istore_n 3, 1) := by decide +kernel
theorem dX5_termReads_13 : decode cX5_termReads 13 = .ok (.iload_n 3, 1) := by decide +kernel
theorem dX5_termReads_14 : decode cX5_termReads 14 = .ok (.sipush 240, 3) := by decide +kernel
theorem dX5_termReads_17 : decode cX5_termReads 17 = .ok (.if_icmp .ge 59, 3) := by decide +kernel
theorem dX5_termReads_20 : decode cX5_termReads 20 = .ok (.aload_n 1, 1) := by decide +kernel
theorem dX5_termReads_21 : decode cX5_termReads 21 = .ok (.invokevirtual 31, 3) := by decide +kernel
theorem dX5_termReads_24 : decode cX5_termReads 24 = .ok (.istore 4, 2) := by decide +kernel
theorem dX5_termReads_26 : decode cX5_termReads 26 = .ok (.iload 4, 2) := by decide +kernel
theorem dX5_termReads_28 : decode cX5_termReads 28 = .ok (.bipush 42, 2) := by decide +kernel
theorem dX5_termReads_30 : decode cX5_termReads 30 = .ok (.if_icmp .eq 12, 3) := by decide +kernel
theorem dX5_termReads_33 : decode cX5_termReads 33 = .ok (.iload 4, 2) := by decide +kernel
theorem dX5_termReads_35 : decode cX5_termReads 35 = .ok (.bipush 47, 2) := by decide +kernel
theorem dX5_termReads_37 : decode cX5_termReads 37 = .ok (.if_icmp .eq 5, 3) := by decide +kernel
theorem dX5_termReads_40 : decode cX5_termReads 40 = .ok (.iconst 1, 1) := by decide +kernel
theorem dX5_termReads_41 : decode cX5_termReads 41 = .ok (.ireturn, 1) := by decide +kernel
theorem dX5_termReads_42 : decode cX5_termReads 42 = .ok (.aload_n 1, 1) := by decide +kernel
theorem dX5_termReads_43 : decode cX5_termReads 43 = .ok (.dup, 1) := by decide +kernel
theorem dX5_termReads_44 : decode cX5_termReads 44 = .ok (.getfield 22, 3) := by decide +kernel
theorem dX5_termReads_47 : decode cX5_termReads 47 = .ok (.iconst 1, 1) := by decide +kernel
theorem dX5_termReads_48 : decode cX5_termReads 48 = .ok (.iadd, 1) := by decide +kernel
theorem dX5_termReads_49 : decode cX5_termReads 49 = .ok (.putfield 22, 3) := by decide +kernel
theorem dX5_termReads_52 : decode cX5_termReads 52 = .ok (.aload_n 0, 1) := by decide +kernel
theorem dX5_termReads_53 : decode cX5_termReads 53 = .ok (.aload_n 1, 1) := by decide +kernel
theorem dX5_termReads_54 : decode cX5_termReads 54 = .ok (.iload_n 2, 1) := by decide +kernel
theorem dX5_termReads_55 : decode cX5_termReads 55 = .ok (.invokevirtual 74, 3) := by decide +kernel
theorem dX5_termReads_58 : decode cX5_termReads 58 = .ok (.ifCond .ne 5, 3) := by decide +kernel
theorem dX5_termReads_61 : decode cX5_termReads 61 = .ok (.iconst 0, 1) := by decide +kernel
theorem dX5_termReads_62 : decode cX5_termReads 62 = .ok (.ireturn, 1) := by decide +kernel
theorem dX5_termReads_63 : decode cX5_termReads 63 = .ok (.aload_n 0, 1) := by decide +kernel
theorem dX5_termReads_64 : decode cX5_termReads 64 = .ok (.iload 4, 2) := by decide +kernel
theorem dX5_termReads_66 : decode cX5_termReads 66 = .ok (.ineg, 1) := by decide +kernel
theorem dX5_termReads_67 : decode cX5_termReads 67 = .ok (.invokevirtual 52, 3) := by decide +kernel
theorem dX5_termReads_70 : decode cX5_termReads 70 = .ok (.iinc 3 1, 3) := by decide +kernel
theorem dX5_termReads_73 : decode cX5_termReads 73 = .ok (.goto (-60), 3) := by decide +kernel
theorem dX5_termReads_76 : decode cX5_termReads 76 = .ok (.iconst 0, 1) := by decide +kernel
theorem dX5_termReads_77 : decode cX5_termReads 77 = .ok (.ireturn, 1) := by decide +kernel
theorem dX5_atomReads_0 : decode cX5_atomReads 0 = .ok (.aload_n 1, 1) := by decide +kernel
theorem dX5_atomReads_1 : decode cX5_atomReads 1 = .ok (.invokevirtual 31, 3) := by decide +kernel
theorem dX5_atomReads_4 : decode cX5_atomReads 4 = .ok (.istore_n 3, 1) := by decide +kernel
theorem dX5_atomReads_5 : decode cX5_atomReads 5 = .ok (.iload_n 3, 1) := by decide +kernel
theorem dX5_atomReads_6 : decode cX5_atomReads 6 = .ok (.bipush 91, 2) := by decide +kernel
theorem dX5_atomReads_8 : decode cX5_atomReads 8 = .ok (.if_icmp .ne 47, 3) := by decide +kernel
theorem dX5_atomReads_11 : decode cX5_atomReads 11 = .ok (.iload_n 2, 1) := by decide +kernel
theorem dX5_atomReads_12 : decode cX5_atomReads 12 = .ok (.bipush 6, 2) := by decide +kernel
theorem dX5_atomReads_14 : decode cX5_atomReads 14 = .ok (.if_icmp .lt 5, 3) := by decide +kernel
theorem dX5_atomReads_17 : decode cX5_atomReads 17 = .ok (.iconst 0, 1) := by decide +kernel
theorem dX5_atomReads_18 : decode cX5_atomReads 18 = .ok (.ireturn, 1) := by decide +kernel
theorem dX5_atomReads_19 : decode cX5_atomReads 19 = .ok (.aload_n 1, 1) := by decide +kernel
theorem dX5_atomReads_20 : decode cX5_atomReads 20 = .ok (.dup, 1) := by decide +kernel
theorem dX5_atomReads_21 : decode cX5_atomReads 21 = .ok (.getfield 22, 3) := by decide +kernel
theorem dX5_atomReads_24 : decode cX5_atomReads 24 = .ok (.iconst 1, 1) := by decide +kernel
theorem dX5_atomReads_25 : decode cX5_atomReads 25 = .ok (.iadd, 1) := by decide +kernel
theorem dX5_atomReads_26 : decode cX5_atomReads 26 = .ok (.putfield 22, 3) := by decide +kernel
theorem dX5_atomReads_29 : decode cX5_atomReads 29 = .ok (.aload_n 0, 1) := by decide +kernel
theorem dX5_atomReads_30 : decode cX5_atomReads 30 = .ok (.aload_n 1, 1) := by decide +kernel
theorem dX5_atomReads_31 : decode cX5_atomReads 31 = .ok (.iload_n 2, 1) := by decide +kernel
theorem dX5_atomReads_32 : decode cX5_atomReads 32 = .ok (.iconst 1, 1) := by decide +kernel
theorem dX5_atomReads_33 : decode cX5_atomReads 33 = .ok (.iadd, 1) := by decide +kernel
theorem dX5_atomReads_34 : decode cX5_atomReads 34 = .ok (.invokevirtual 46, 3) := by decide +kernel
theorem dX5_atomReads_37 : decode cX5_atomReads 37 = .ok (.ifCond .eq 16, 3) := by decide +kernel
theorem dX5_atomReads_40 : decode cX5_atomReads 40 = .ok (.aload_n 1, 1) := by decide +kernel
theorem dX5_atomReads_41 : decode cX5_atomReads 41 = .ok (.bipush 93, 2) := by decide +kernel
theorem dX5_atomReads_43 : decode cX5_atomReads 43 = .ok (.invokevirtual 35, 3) := by decide +kernel
theorem dX5_atomReads_46 : decode cX5_atomReads 46 = .ok (.ifCond .eq 7, 3) := by decide +kernel
theorem dX5_atomReads_49 : decode cX5_atomReads 49 = .ok (.iconst 1, 1) := by decide +kernel
theorem dX5_atomReads_50 : decode cX5_atomReads 50 = .ok (.goto 4, 3) := by decide +kernel
theorem dX5_atomReads_53 : decode cX5_atomReads 53 = .ok (.iconst 0, 1) := by decide +kernel
theorem dX5_atomReads_54 : decode cX5_atomReads 54 = .ok (.ireturn, 1) := by decide +kernel
theorem dX5_atomReads_55 : decode cX5_atomReads 55 = .ok (.iconst 0, 1) := by decide +kernel
theorem dX5_atomReads_56 : decode cX5_atomReads 56 = .ok (.istore 4, 2) := by decide +kernel
theorem dX5_atomReads_58 : decode cX5_atomReads 58 = .ok (.iload 4, 2) := by decide +kernel
theorem dX5_atomReads_60 : decode cX5_atomReads 60 = .ok (.getstatic 77, 3) := by decide +kernel
theorem dX5_atomReads_63 : decode cX5_atomReads 63 = .ok (.arraylength, 1) := by decide +kernel
theorem dX5_atomReads_64 : decode cX5_atomReads 64 = .ok (.if_icmp .ge 39, 3) := by decide +kernel
theorem dX5_atomReads_67 : decode cX5_atomReads 67 = .ok (.getstatic 77, 3) := by decide +kernel
theorem dX5_atomReads_70 : decode cX5_atomReads 70 = .ok (.iload 4, 2) := by decide +kernel
theorem dX5_atomReads_72 : decode cX5_atomReads 72 = .ok (.caload, 1) := by decide +kernel
theorem dX5_atomReads_73 : decode cX5_atomReads 73 = .ok (.iload_n 3, 1) := by decide +kernel
theorem dX5_atomReads_74 : decode cX5_atomReads 74 = .ok (.if_icmp .ne 23, 3) := by decide +kernel
theorem dX5_atomReads_77 : decode cX5_atomReads 77 = .ok (.aload_n 1, 1) := by decide +kernel
theorem dX5_atomReads_78 : decode cX5_atomReads 78 = .ok (.dup, 1) := by decide +kernel
theorem dX5_atomReads_79 : decode cX5_atomReads 79 = .ok (.getfield 22, 3) := by decide +kernel
theorem dX5_atomReads_82 : decode cX5_atomReads 82 = .ok (.iconst 1, 1) := by decide +kernel
theorem dX5_atomReads_83 : decode cX5_atomReads 83 = .ok (.iadd, 1) := by decide +kernel
theorem dX5_atomReads_84 : decode cX5_atomReads 84 = .ok (.putfield 22, 3) := by decide +kernel
theorem dX5_atomReads_87 : decode cX5_atomReads 87 = .ok (.aload_n 0, 1) := by decide +kernel
theorem dX5_atomReads_88 : decode cX5_atomReads 88 = .ok (.iconst (-1), 1) := by decide +kernel
theorem dX5_atomReads_89 : decode cX5_atomReads 89 = .ok (.iload 4, 2) := by decide +kernel
theorem dX5_atomReads_91 : decode cX5_atomReads 91 = .ok (.isub, 1) := by decide +kernel
theorem dX5_atomReads_92 : decode cX5_atomReads 92 = .ok (.invokevirtual 52, 3) := by decide +kernel
theorem dX5_atomReads_95 : decode cX5_atomReads 95 = .ok (.iconst 1, 1) := by decide +kernel
theorem dX5_atomReads_96 : decode cX5_atomReads 96 = .ok (.ireturn, 1) := by decide +kernel
theorem dX5_atomReads_97 : decode cX5_atomReads 97 = .ok (.iinc 4 1, 3) := by decide +kernel
theorem dX5_atomReads_100 : decode cX5_atomReads 100 = .ok (.goto (-42), 3) := by decide +kernel
theorem dX5_atomReads_103 : decode cX5_atomReads 103 = .ok (.aload_n 1, 1) := by decide +kernel
theorem dX5_atomReads_104 : decode cX5_atomReads 104 = .ok (.iconst 4, 1) := by decide +kernel
theorem dX5_atomReads_105 : decode cX5_atomReads 105 = .ok (.invokevirtual 81, 3) := by decide +kernel
theorem dX5_atomReads_108 : decode cX5_atomReads 108 = .ok (.ifCond .ne 5, 3) := by decide +kernel
theorem dX5_atomReads_111 : decode cX5_atomReads 111 = .ok (.iconst 0, 1) := by decide +kernel
theorem dX5_atomReads_112 : decode cX5_atomReads 112 = .ok (.ireturn, 1) := by decide +kernel
theorem dX5_atomReads_113 : decode cX5_atomReads 113 = .ok (.aload_n 0, 1) := by decide +kernel
theorem dX5_atomReads_114 : decode cX5_atomReads 114 = .ok (.aload_n 1, 1) := by decide +kernel
theorem dX5_atomReads_115 : decode cX5_atomReads 115 = .ok (.getfield 84, 3) := by decide +kernel
theorem dX5_atomReads_118 : decode cX5_atomReads 118 = .ok (.invokevirtual 52, 3) := by decide +kernel
theorem dX5_atomReads_121 : decode cX5_atomReads 121 = .ok (.iconst 1, 1) := by decide +kernel
theorem dX5_atomReads_122 : decode cX5_atomReads 122 = .ok (.ireturn, 1) := by decide +kernel
def f_Law_sumReads_L13 (rc : Nat → Mem → Nat → Int32 → Option (Int32 × Mem)) (x0 : Nat) (x2 : Int32) (a : Mem × Int32) : Option ((Mem × Int32) ⊕ (Int32 × Mem)) :=
  @Prod.casesOn (Mem) (Int32) (fun _ => Option ((Mem × Int32) ⊕ (Int32 × Mem))) a fun τ z3 =>
  if (240 : Int32) ≤ z3 then
    some (.inr ((0 : Int32), τ))
  else
    (f_Tape_sign τ).bind fun q4 =>
    if q4.1 = (43 : Int32) then
      (rc 1 (sI q4.2 1 2 ((mI q4.2 1 2) + (1 : Int32))) x0 x2).bind fun q6 =>
      if q6.1 = (0 : Int32) then
        some (.inr ((0 : Int32), q6.2))
      else
        (f_Law_put q6.2 x0 (-q4.1)).bind fun q8 =>
        some (.inl (q8, (z3 + (1 : Int32))))
    else
      if q4.1 = (45 : Int32) then
        (rc 1 (sI q4.2 1 2 ((mI q4.2 1 2) + (1 : Int32))) x0 x2).bind fun q10 =>
        if q10.1 = (0 : Int32) then
          some (.inr ((0 : Int32), q10.2))
        else
          (f_Law_put q10.2 x0 (-q4.1)).bind fun q12 =>
          some (.inl (q12, (z3 + (1 : Int32))))
      else
        some (.inr ((1 : Int32), q4.2))
def f_Law_sumReads (rc : Nat → Mem → Nat → Int32 → Option (Int32 × Mem)) (σ : Mem) (x0 : Nat) (x2 : Int32) : Option (Int32 × Mem) :=
  (rc 1 σ x0 x2).bind fun q1 =>
  if q1.1 = (0 : Int32) then
    some ((0 : Int32), q1.2)
  else
    loopF (f_Law_sumReads_L13 rc x0 x2) FU (q1.2, (0 : Int32))
set_option maxHeartbeats 4000000 in
set_option maxRecDepth 20000 in
theorem gs_Law_sumReads_L13 (X : Cx θ p s m args c cX5_sumReads 5 RX5) (hr : meth.sig.returnType = some .boolean) (hlk : meth.locks = false) {rc : Nat → Mem → Nat → Int32 → Option (Int32 × Mem)} {nr : Nat} (hrec0 : ∀ {σ : Mem} {x0 : Nat} {x2 : Int32} {r : Int32 × Mem}, kd x0 = 6 → rc 0 σ x0 x2 = some r → Cn θ l yX5_sumReads cX5_sumReads 5 (some .boolean) (1 + nr) 0 0 [.ref (be θ + x0), .ref (be θ + 1), .int x2] σ (some (.int r.1), r.2)) (hrec1 : ∀ {σ : Mem} {x0 : Nat} {x2 : Int32} {r : Int32 × Mem}, kd x0 = 6 → rc 1 σ x0 x2 = some r → Cn θ l yX5_termReads cX5_termReads 5 (some .boolean) (1 + nr) 0 0 [.ref (be θ + x0), .ref (be θ + 1), .int x2] σ (some (.int r.1), r.2)) (hrec2 : ∀ {σ : Mem} {x0 : Nat} {x2 : Int32} {r : Int32 × Mem}, kd x0 = 6 → rc 2 σ x0 x2 = some r → Cn θ l yX5_atomReads cX5_atomReads 5 (some .boolean) (1 + nr) 0 0 [.ref (be θ + x0), .ref (be θ + 1), .int x2] σ (some (.int r.1), r.2))  {x0 : Nat} {x2 : Int32} {r : Int32 × Mem} (h0 : kd x0 = 6) (τ : Mem) (z3 : Int32) (x : (Mem × Int32) ⊕ (Int32 × Mem)) (h : f_Law_sumReads_L13 rc x0 x2 (τ, z3) = some x) (hk : Sum.elim (fun a => @Prod.casesOn (Mem) (Int32) (fun _ => Prop) a fun τ z3 => GB θ p l e (1 + nr + 1) s m args below meth c 5 (some (.int r.1), r.2) 13 [(0, .ref (be θ + x0)), (1, .ref (be θ + 1)), (2, .int x2), (3, .int z3)] [] τ) (fun b => b = r) x) : GB θ p l e (1 + nr + 1) s m args below meth c 5 (some (.int r.1), r.2) 13 [(0, .ref (be θ + x0)), (1, .ref (be θ + 1)), (2, .int x2), (3, .int z3)] [] τ := by
  unfold f_Law_sumReads_L13 at h
  dsimp only at h
  refine g_iload_n X dX5_sumReads_13 rfl 3 rfl ?_
  refine g_sipush X dX5_sumReads_14 (v := (240 : Int32)) sp_240 ?_
  refine g_icmp_ge (tgt := 76) X dX5_sumReads_17 (by decide) (fun c3 => ?_) (fun c3 => ?_)
  · replace h := (if_pos c3).symm.trans h
    refine g_iconst X dX5_sumReads_76 (v := (0 : Int32)) ic_0 ?_
    have hk := inr_hk h hk
    have hk : ((0 : Int32), τ) = r := hk
    subst hk
    exact g_zret X hr hlk bz0 dX5_sumReads_77 rfl
  · replace h := (if_neg c3).symm.trans h
    refine g_aload_n X dX5_sumReads_20 rfl 1 rfl ?_
    obtain ⟨q4, hq4, h⟩ := Option.bind_eq_some_iff.mp h
    refine g_cV X (c_Tape_sign  hq4) lk_RX5_31 my_X8_sign (a := 1) (ci := 8) kd_1 (by decide) rfl (As := []) (rest := []) rfl rfl (Nat.le_of_ble_eq_true rfl) ⟨(by show 0 + 1 ≤ 1 + nr + 1; omega), (by show 8 + (1 + 11) + 40 * 0 ≤ 40 * (1 + nr + 1); omega)⟩ ⟨(Nat.le_of_ble_eq_true rfl), (Nat.le_of_ble_eq_true rfl)⟩ dX5_sumReads_21 (st' := [.int q4.1]) (σ' := q4.2) rfl rfl ?_
    refine g_istore X dX5_sumReads_24 (by decide) (lv' := [(4, .int q4.1), (0, .ref (be θ + x0)), (1, .ref (be θ + 1)), (2, .int x2), (3, .int z3)]) rfl ?_
    refine g_iload X dX5_sumReads_26 0 rfl ?_
    refine g_bipush X dX5_sumReads_28 (v := (43 : Int32)) bp_43 ?_
    refine g_icmp_eq (tgt := 42) X dX5_sumReads_30 (by decide) (fun c5 => ?_) (fun c5 => ?_)
    · replace h := (if_pos c5).symm.trans h
      refine g_aload_n X dX5_sumReads_42 rfl 2 rfl ?_
      refine g_dup X dX5_sumReads_43 rfl ?_
      refine g_get X fl_RX5_22 dX5_sumReads_44 kd_1 (v := .int (mI q4.2 1 2)) rfl ?_
      refine g_iconst X dX5_sumReads_47 (v := (1 : Int32)) ic_1 ?_
      refine g_iadd X dX5_sumReads_48 ?_
      refine g_putI X fl_RX5_22 dX5_sumReads_49 kd_1 rfl rfl rfl ?_
      refine g_aload_n X dX5_sumReads_52 rfl 1 rfl ?_
      refine g_aload_n X dX5_sumReads_53 rfl 2 rfl ?_
      refine g_iload_n X dX5_sumReads_54 rfl 3 rfl ?_
      obtain ⟨q6, hq6, h⟩ := Option.bind_eq_some_iff.mp h
      refine g_cV X (hrec1 h0 hq6) lk_RX5_71 my_X5_termReads (a := x0) (ci := 5) h0 (by decide) rfl (As := [.ref (be θ + 1), .int x2]) (rest := []) rfl rfl (Nat.le_of_ble_eq_true rfl) ⟨Nat.le_refl _, (by show 8 + (5 + 11) + 40 * (1 + nr) ≤ 40 * (1 + nr + 1); omega)⟩ ⟨(Nat.le_of_ble_eq_true rfl), (Nat.le_of_ble_eq_true rfl)⟩ dX5_sumReads_55 (st' := [.int q6.1]) (σ' := q6.2) rfl rfl ?_
      refine g_if_ne (tgt := 63) X dX5_sumReads_58 (by decide) (fun c7 => ?_) (fun c7 => ?_)
      · replace h := (if_neg c7).symm.trans h
        refine g_aload_n X dX5_sumReads_63 rfl 1 rfl ?_
        refine g_iload X dX5_sumReads_64 0 rfl ?_
        refine g_ineg X dX5_sumReads_66 ?_
        obtain ⟨q8, hq8, h⟩ := Option.bind_eq_some_iff.mp h
        refine g_cV X (c_Law_put h0 hq8) lk_RX5_52 my_X5_put (a := x0) (ci := 5) h0 (by decide) rfl (As := [.int (-q4.1)]) (rest := []) rfl rfl (Nat.le_of_ble_eq_true rfl) ⟨(by show 0 + 1 ≤ 1 + nr + 1; omega), (by show 8 + (2 + 11) + 40 * 0 ≤ 40 * (1 + nr + 1); omega)⟩ ⟨(Nat.le_of_ble_eq_true rfl), (Nat.le_of_ble_eq_true rfl)⟩ dX5_sumReads_67 (st' := []) (σ' := q8) rfl rfl ?_
        refine g_iinc X dX5_sumReads_70 (kq := 4) rfl (congrArg (HAdd.hAdd _) ic_1) (by decide) (lv' := [(3, .int (z3 + (1 : Int32))), (4, .int q4.1), (0, .ref (be θ + x0)), (1, .ref (be θ + 1)), (2, .int x2)]) rfl ?_
        refine g_goto (tgt := 13) X dX5_sumReads_73 (by decide) ?_
        have hk := inl_hk h hk
        exact g_sub (lv' := [(0, .ref (be θ + x0)), (1, .ref (be θ + 1)), (2, .int x2), (3, .int (z3 + (1 : Int32)))]) [2, 3, 4, 0] rfl hk
      · replace h := (if_pos c7).symm.trans h
        refine g_iconst X dX5_sumReads_61 (v := (0 : Int32)) ic_0 ?_
        have hk := inr_hk h hk
        have hk : ((0 : Int32), q6.2) = r := hk
        subst hk
        exact g_zret X hr hlk bz0 dX5_sumReads_62 rfl
    · replace h := (if_neg c5).symm.trans h
      refine g_iload X dX5_sumReads_33 0 rfl ?_
      refine g_bipush X dX5_sumReads_35 (v := (45 : Int32)) bp_45 ?_
      refine g_icmp_eq (tgt := 42) X dX5_sumReads_37 (by decide) (fun c9 => ?_) (fun c9 => ?_)
      · replace h := (if_pos c9).symm.trans h
        refine g_aload_n X dX5_sumReads_42 rfl 2 rfl ?_
        refine g_dup X dX5_sumReads_43 rfl ?_
        refine g_get X fl_RX5_22 dX5_sumReads_44 kd_1 (v := .int (mI q4.2 1 2)) rfl ?_
        refine g_iconst X dX5_sumReads_47 (v := (1 : Int32)) ic_1 ?_
        refine g_iadd X dX5_sumReads_48 ?_
        refine g_putI X fl_RX5_22 dX5_sumReads_49 kd_1 rfl rfl rfl ?_
        refine g_aload_n X dX5_sumReads_52 rfl 1 rfl ?_
        refine g_aload_n X dX5_sumReads_53 rfl 2 rfl ?_
        refine g_iload_n X dX5_sumReads_54 rfl 3 rfl ?_
        obtain ⟨q10, hq10, h⟩ := Option.bind_eq_some_iff.mp h
        refine g_cV X (hrec1 h0 hq10) lk_RX5_71 my_X5_termReads (a := x0) (ci := 5) h0 (by decide) rfl (As := [.ref (be θ + 1), .int x2]) (rest := []) rfl rfl (Nat.le_of_ble_eq_true rfl) ⟨Nat.le_refl _, (by show 8 + (5 + 11) + 40 * (1 + nr) ≤ 40 * (1 + nr + 1); omega)⟩ ⟨(Nat.le_of_ble_eq_true rfl), (Nat.le_of_ble_eq_true rfl)⟩ dX5_sumReads_55 (st' := [.int q10.1]) (σ' := q10.2) rfl rfl ?_
        refine g_if_ne (tgt := 63) X dX5_sumReads_58 (by decide) (fun c11 => ?_) (fun c11 => ?_)
        · replace h := (if_neg c11).symm.trans h
          refine g_aload_n X dX5_sumReads_63 rfl 1 rfl ?_
          refine g_iload X dX5_sumReads_64 0 rfl ?_
          refine g_ineg X dX5_sumReads_66 ?_
          obtain ⟨q12, hq12, h⟩ := Option.bind_eq_some_iff.mp h
          refine g_cV X (c_Law_put h0 hq12) lk_RX5_52 my_X5_put (a := x0) (ci := 5) h0 (by decide) rfl (As := [.int (-q4.1)]) (rest := []) rfl rfl (Nat.le_of_ble_eq_true rfl) ⟨(by show 0 + 1 ≤ 1 + nr + 1; omega), (by show 8 + (2 + 11) + 40 * 0 ≤ 40 * (1 + nr + 1); omega)⟩ ⟨(Nat.le_of_ble_eq_true rfl), (Nat.le_of_ble_eq_true rfl)⟩ dX5_sumReads_67 (st' := []) (σ' := q12) rfl rfl ?_
          refine g_iinc X dX5_sumReads_70 (kq := 4) rfl (congrArg (HAdd.hAdd _) ic_1) (by decide) (lv' := [(3, .int (z3 + (1 : Int32))), (4, .int q4.1), (0, .ref (be θ + x0)), (1, .ref (be θ + 1)), (2, .int x2)]) rfl ?_
          refine g_goto (tgt := 13) X dX5_sumReads_73 (by decide) ?_
          have hk := inl_hk h hk
          exact g_sub (lv' := [(0, .ref (be θ + x0)), (1, .ref (be θ + 1)), (2, .int x2), (3, .int (z3 + (1 : Int32)))]) [2, 3, 4, 0] rfl hk
        · replace h := (if_pos c11).symm.trans h
          refine g_iconst X dX5_sumReads_61 (v := (0 : Int32)) ic_0 ?_
          have hk := inr_hk h hk
          have hk : ((0 : Int32), q10.2) = r := hk
          subst hk
          exact g_zret X hr hlk bz0 dX5_sumReads_62 rfl
      · replace h := (if_neg c9).symm.trans h
        refine g_iconst X dX5_sumReads_40 (v := (1 : Int32)) ic_1 ?_
        have hk := inr_hk h hk
        have hk : ((1 : Int32), q4.2) = r := hk
        subst hk
        exact g_zret X hr hlk bz1 dX5_sumReads_41 rfl
set_option maxHeartbeats 4000000 in
set_option maxRecDepth 20000 in
theorem gl_Law_sumReads_L13 (X : Cx θ p s m args c cX5_sumReads 5 RX5) (hr : meth.sig.returnType = some .boolean) (hlk : meth.locks = false) {rc : Nat → Mem → Nat → Int32 → Option (Int32 × Mem)} {nr : Nat} (hrec0 : ∀ {σ : Mem} {x0 : Nat} {x2 : Int32} {r : Int32 × Mem}, kd x0 = 6 → rc 0 σ x0 x2 = some r → Cn θ l yX5_sumReads cX5_sumReads 5 (some .boolean) (1 + nr) 0 0 [.ref (be θ + x0), .ref (be θ + 1), .int x2] σ (some (.int r.1), r.2)) (hrec1 : ∀ {σ : Mem} {x0 : Nat} {x2 : Int32} {r : Int32 × Mem}, kd x0 = 6 → rc 1 σ x0 x2 = some r → Cn θ l yX5_termReads cX5_termReads 5 (some .boolean) (1 + nr) 0 0 [.ref (be θ + x0), .ref (be θ + 1), .int x2] σ (some (.int r.1), r.2)) (hrec2 : ∀ {σ : Mem} {x0 : Nat} {x2 : Int32} {r : Int32 × Mem}, kd x0 = 6 → rc 2 σ x0 x2 = some r → Cn θ l yX5_atomReads cX5_atomReads 5 (some .boolean) (1 + nr) 0 0 [.ref (be θ + x0), .ref (be θ + 1), .int x2] σ (some (.int r.1), r.2))  {x0 : Nat} {x2 : Int32} {r : Int32 × Mem} (h0 : kd x0 = 6) (n : Nat) (a : Mem × Int32) (b : Int32 × Mem) (h : loopF (f_Law_sumReads_L13 rc x0 x2) n a = some b) (hk : (fun b => b = r) b) : (fun a => @Prod.casesOn (Mem) (Int32) (fun _ => Prop) a fun τ z3 => GB θ p l e (1 + nr + 1) s m args below meth c 5 (some (.int r.1), r.2) 13 [(0, .ref (be θ + x0)), (1, .ref (be θ + 1)), (2, .int x2), (3, .int z3)] [] τ) a :=
  loopF_by (P := (fun a => @Prod.casesOn (Mem) (Int32) (fun _ => Prop) a fun τ z3 => GB θ p l e (1 + nr + 1) s m args below meth c 5 (some (.int r.1), r.2) 13 [(0, .ref (be θ + x0)), (1, .ref (be θ + 1)), (2, .int x2), (3, .int z3)] [] τ)) (K := (fun b => b = r)) (fun a x h hk => by obtain ⟨τ, z3⟩ := a; exact gs_Law_sumReads_L13 X hr hlk hrec0 hrec1 hrec2 h0 τ z3 x h hk) n a b h hk
set_option maxHeartbeats 4000000 in
set_option maxRecDepth 20000 in
theorem g_Law_sumReads (X : Cx θ p s m args c cX5_sumReads 5 RX5) (hr : meth.sig.returnType = some .boolean) (hlk : meth.locks = false) {rc : Nat → Mem → Nat → Int32 → Option (Int32 × Mem)} {nr : Nat} (hrec0 : ∀ {σ : Mem} {x0 : Nat} {x2 : Int32} {r : Int32 × Mem}, kd x0 = 6 → rc 0 σ x0 x2 = some r → Cn θ l yX5_sumReads cX5_sumReads 5 (some .boolean) (1 + nr) 0 0 [.ref (be θ + x0), .ref (be θ + 1), .int x2] σ (some (.int r.1), r.2)) (hrec1 : ∀ {σ : Mem} {x0 : Nat} {x2 : Int32} {r : Int32 × Mem}, kd x0 = 6 → rc 1 σ x0 x2 = some r → Cn θ l yX5_termReads cX5_termReads 5 (some .boolean) (1 + nr) 0 0 [.ref (be θ + x0), .ref (be θ + 1), .int x2] σ (some (.int r.1), r.2)) (hrec2 : ∀ {σ : Mem} {x0 : Nat} {x2 : Int32} {r : Int32 × Mem}, kd x0 = 6 → rc 2 σ x0 x2 = some r → Cn θ l yX5_atomReads cX5_atomReads 5 (some .boolean) (1 + nr) 0 0 [.ref (be θ + x0), .ref (be θ + 1), .int x2] σ (some (.int r.1), r.2))  {σ : Mem} {x0 : Nat} {x2 : Int32} {r : Int32 × Mem} (h0 : kd x0 = 6) (h : f_Law_sumReads rc σ x0 x2 = some r) : GB θ p l e (1 + nr + 1) s m args below meth c 5 (some (.int r.1), r.2) 0 [(0, .ref (be θ + x0)), (1, .ref (be θ + 1)), (2, .int x2)] [] σ := by
  unfold f_Law_sumReads at h
  refine g_aload_n X dX5_sumReads_0 rfl 0 rfl ?_
  refine g_aload_n X dX5_sumReads_1 rfl 1 rfl ?_
  refine g_iload_n X dX5_sumReads_2 rfl 2 rfl ?_
  obtain ⟨q1, hq1, h⟩ := Option.bind_eq_some_iff.mp h
  refine g_cV X (hrec1 h0 hq1) lk_RX5_71 my_X5_termReads (a := x0) (ci := 5) h0 (by decide) rfl (As := [.ref (be θ + 1), .int x2]) (rest := []) rfl rfl (Nat.le_of_ble_eq_true rfl) ⟨Nat.le_refl _, (by show 8 + (5 + 11) + 40 * (1 + nr) ≤ 40 * (1 + nr + 1); omega)⟩ ⟨(Nat.le_of_ble_eq_true rfl), (Nat.le_of_ble_eq_true rfl)⟩ dX5_sumReads_3 (st' := [.int q1.1]) (σ' := q1.2) rfl rfl ?_
  refine g_if_ne (tgt := 11) X dX5_sumReads_6 (by decide) (fun c2 => ?_) (fun c2 => ?_)
  · replace h := (if_neg c2).symm.trans h
    refine g_iconst X dX5_sumReads_11 (v := (0 : Int32)) ic_0 ?_
    refine g_istore_n X dX5_sumReads_12 rfl (by decide) (lv' := [(3, .int (0 : Int32)), (0, .ref (be θ + x0)), (1, .ref (be θ + 1)), (2, .int x2)]) rfl ?_
    exact g_sub (lv' := [(0, .ref (be θ + x0)), (1, .ref (be θ + 1)), (2, .int x2), (3, .int (0 : Int32))]) [1, 2, 3, 0] rfl (gl_Law_sumReads_L13 X hr hlk hrec0 hrec1 hrec2 h0  FU _ _ h rfl)
  · replace h := (if_pos c2).symm.trans h
    refine g_iconst X dX5_sumReads_9 (v := (0 : Int32)) ic_0 ?_
    exact g_zret X hr hlk bz0 dX5_sumReads_10 (by cases h; rfl)
def f_Law_termReads_L13 (rc : Nat → Mem → Nat → Int32 → Option (Int32 × Mem)) (x0 : Nat) (x2 : Int32) (a : Mem × Int32) : Option ((Mem × Int32) ⊕ (Int32 × Mem)) :=
  @Prod.casesOn (Mem) (Int32) (fun _ => Option ((Mem × Int32) ⊕ (Int32 × Mem))) a fun τ z3 =>
  if (240 : Int32) ≤ z3 then
    some (.inr ((0 : Int32), τ))
  else
    (f_Tape_sign τ).bind fun q4 =>
    if q4.1 = (42 : Int32) then
      (rc 2 (sI q4.2 1 2 ((mI q4.2 1 2) + (1 : Int32))) x0 x2).bind fun q6 =>
      if q6.1 = (0 : Int32) then
        some (.inr ((0 : Int32), q6.2))
      else
        (f_Law_put q6.2 x0 (-q4.1)).bind fun q8 =>
        some (.inl (q8, (z3 + (1 : Int32))))
    else
      if q4.1 = (47 : Int32) then
        (rc 2 (sI q4.2 1 2 ((mI q4.2 1 2) + (1 : Int32))) x0 x2).bind fun q10 =>
        if q10.1 = (0 : Int32) then
          some (.inr ((0 : Int32), q10.2))
        else
          (f_Law_put q10.2 x0 (-q4.1)).bind fun q12 =>
          some (.inl (q12, (z3 + (1 : Int32))))
      else
        some (.inr ((1 : Int32), q4.2))
def f_Law_termReads (rc : Nat → Mem → Nat → Int32 → Option (Int32 × Mem)) (σ : Mem) (x0 : Nat) (x2 : Int32) : Option (Int32 × Mem) :=
  (rc 2 σ x0 x2).bind fun q1 =>
  if q1.1 = (0 : Int32) then
    some ((0 : Int32), q1.2)
  else
    loopF (f_Law_termReads_L13 rc x0 x2) FU (q1.2, (0 : Int32))
set_option maxHeartbeats 4000000 in
set_option maxRecDepth 20000 in
theorem gs_Law_termReads_L13 (X : Cx θ p s m args c cX5_termReads 5 RX5) (hr : meth.sig.returnType = some .boolean) (hlk : meth.locks = false) {rc : Nat → Mem → Nat → Int32 → Option (Int32 × Mem)} {nr : Nat} (hrec0 : ∀ {σ : Mem} {x0 : Nat} {x2 : Int32} {r : Int32 × Mem}, kd x0 = 6 → rc 0 σ x0 x2 = some r → Cn θ l yX5_sumReads cX5_sumReads 5 (some .boolean) (1 + nr) 0 0 [.ref (be θ + x0), .ref (be θ + 1), .int x2] σ (some (.int r.1), r.2)) (hrec1 : ∀ {σ : Mem} {x0 : Nat} {x2 : Int32} {r : Int32 × Mem}, kd x0 = 6 → rc 1 σ x0 x2 = some r → Cn θ l yX5_termReads cX5_termReads 5 (some .boolean) (1 + nr) 0 0 [.ref (be θ + x0), .ref (be θ + 1), .int x2] σ (some (.int r.1), r.2)) (hrec2 : ∀ {σ : Mem} {x0 : Nat} {x2 : Int32} {r : Int32 × Mem}, kd x0 = 6 → rc 2 σ x0 x2 = some r → Cn θ l yX5_atomReads cX5_atomReads 5 (some .boolean) (1 + nr) 0 0 [.ref (be θ + x0), .ref (be θ + 1), .int x2] σ (some (.int r.1), r.2))  {x0 : Nat} {x2 : Int32} {r : Int32 × Mem} (h0 : kd x0 = 6) (τ : Mem) (z3 : Int32) (x : (Mem × Int32) ⊕ (Int32 × Mem)) (h : f_Law_termReads_L13 rc x0 x2 (τ, z3) = some x) (hk : Sum.elim (fun a => @Prod.casesOn (Mem) (Int32) (fun _ => Prop) a fun τ z3 => GB θ p l e (1 + nr + 1) s m args below meth c 5 (some (.int r.1), r.2) 13 [(0, .ref (be θ + x0)), (1, .ref (be θ + 1)), (2, .int x2), (3, .int z3)] [] τ) (fun b => b = r) x) : GB θ p l e (1 + nr + 1) s m args below meth c 5 (some (.int r.1), r.2) 13 [(0, .ref (be θ + x0)), (1, .ref (be θ + 1)), (2, .int x2), (3, .int z3)] [] τ := by
  unfold f_Law_termReads_L13 at h
  dsimp only at h
  refine g_iload_n X dX5_termReads_13 rfl 3 rfl ?_
  refine g_sipush X dX5_termReads_14 (v := (240 : Int32)) sp_240 ?_
  refine g_icmp_ge (tgt := 76) X dX5_termReads_17 (by decide) (fun c3 => ?_) (fun c3 => ?_)
  · replace h := (if_pos c3).symm.trans h
    refine g_iconst X dX5_termReads_76 (v := (0 : Int32)) ic_0 ?_
    have hk := inr_hk h hk
    have hk : ((0 : Int32), τ) = r := hk
    subst hk
    exact g_zret X hr hlk bz0 dX5_termReads_77 rfl
  · replace h := (if_neg c3).symm.trans h
    refine g_aload_n X dX5_termReads_20 rfl 1 rfl ?_
    obtain ⟨q4, hq4, h⟩ := Option.bind_eq_some_iff.mp h
    refine g_cV X (c_Tape_sign  hq4) lk_RX5_31 my_X8_sign (a := 1) (ci := 8) kd_1 (by decide) rfl (As := []) (rest := []) rfl rfl (Nat.le_of_ble_eq_true rfl) ⟨(by show 0 + 1 ≤ 1 + nr + 1; omega), (by show 8 + (1 + 11) + 40 * 0 ≤ 40 * (1 + nr + 1); omega)⟩ ⟨(Nat.le_of_ble_eq_true rfl), (Nat.le_of_ble_eq_true rfl)⟩ dX5_termReads_21 (st' := [.int q4.1]) (σ' := q4.2) rfl rfl ?_
    refine g_istore X dX5_termReads_24 (by decide) (lv' := [(4, .int q4.1), (0, .ref (be θ + x0)), (1, .ref (be θ + 1)), (2, .int x2), (3, .int z3)]) rfl ?_
    refine g_iload X dX5_termReads_26 0 rfl ?_
    refine g_bipush X dX5_termReads_28 (v := (42 : Int32)) bp_42 ?_
    refine g_icmp_eq (tgt := 42) X dX5_termReads_30 (by decide) (fun c5 => ?_) (fun c5 => ?_)
    · replace h := (if_pos c5).symm.trans h
      refine g_aload_n X dX5_termReads_42 rfl 2 rfl ?_
      refine g_dup X dX5_termReads_43 rfl ?_
      refine g_get X fl_RX5_22 dX5_termReads_44 kd_1 (v := .int (mI q4.2 1 2)) rfl ?_
      refine g_iconst X dX5_termReads_47 (v := (1 : Int32)) ic_1 ?_
      refine g_iadd X dX5_termReads_48 ?_
      refine g_putI X fl_RX5_22 dX5_termReads_49 kd_1 rfl rfl rfl ?_
      refine g_aload_n X dX5_termReads_52 rfl 1 rfl ?_
      refine g_aload_n X dX5_termReads_53 rfl 2 rfl ?_
      refine g_iload_n X dX5_termReads_54 rfl 3 rfl ?_
      obtain ⟨q6, hq6, h⟩ := Option.bind_eq_some_iff.mp h
      refine g_cV X (hrec2 h0 hq6) lk_RX5_74 my_X5_atomReads (a := x0) (ci := 5) h0 (by decide) rfl (As := [.ref (be θ + 1), .int x2]) (rest := []) rfl rfl (Nat.le_of_ble_eq_true rfl) ⟨Nat.le_refl _, (by show 8 + (5 + 11) + 40 * (1 + nr) ≤ 40 * (1 + nr + 1); omega)⟩ ⟨(Nat.le_of_ble_eq_true rfl), (Nat.le_of_ble_eq_true rfl)⟩ dX5_termReads_55 (st' := [.int q6.1]) (σ' := q6.2) rfl rfl ?_
      refine g_if_ne (tgt := 63) X dX5_termReads_58 (by decide) (fun c7 => ?_) (fun c7 => ?_)
      · replace h := (if_neg c7).symm.trans h
        refine g_aload_n X dX5_termReads_63 rfl 1 rfl ?_
        refine g_iload X dX5_termReads_64 0 rfl ?_
        refine g_ineg X dX5_termReads_66 ?_
        obtain ⟨q8, hq8, h⟩ := Option.bind_eq_some_iff.mp h
        refine g_cV X (c_Law_put h0 hq8) lk_RX5_52 my_X5_put (a := x0) (ci := 5) h0 (by decide) rfl (As := [.int (-q4.1)]) (rest := []) rfl rfl (Nat.le_of_ble_eq_true rfl) ⟨(by show 0 + 1 ≤ 1 + nr + 1; omega), (by show 8 + (2 + 11) + 40 * 0 ≤ 40 * (1 + nr + 1); omega)⟩ ⟨(Nat.le_of_ble_eq_true rfl), (Nat.le_of_ble_eq_true rfl)⟩ dX5_termReads_67 (st' := []) (σ' := q8) rfl rfl ?_
        refine g_iinc X dX5_termReads_70 (kq := 4) rfl (congrArg (HAdd.hAdd _) ic_1) (by decide) (lv' := [(3, .int (z3 + (1 : Int32))), (4, .int q4.1), (0, .ref (be θ + x0)), (1, .ref (be θ + 1)), (2, .int x2)]) rfl ?_
        refine g_goto (tgt := 13) X dX5_termReads_73 (by decide) ?_
        have hk := inl_hk h hk
        exact g_sub (lv' := [(0, .ref (be θ + x0)), (1, .ref (be θ + 1)), (2, .int x2), (3, .int (z3 + (1 : Int32)))]) [2, 3, 4, 0] rfl hk
      · replace h := (if_pos c7).symm.trans h
        refine g_iconst X dX5_termReads_61 (v := (0 : Int32)) ic_0 ?_
        have hk := inr_hk h hk
        have hk : ((0 : Int32), q6.2) = r := hk
        subst hk
        exact g_zret X hr hlk bz0 dX5_termReads_62 rfl
    · replace h := (if_neg c5).symm.trans h
      refine g_iload X dX5_termReads_33 0 rfl ?_
      refine g_bipush X dX5_termReads_35 (v := (47 : Int32)) bp_47 ?_
      refine g_icmp_eq (tgt := 42) X dX5_termReads_37 (by decide) (fun c9 => ?_) (fun c9 => ?_)
      · replace h := (if_pos c9).symm.trans h
        refine g_aload_n X dX5_termReads_42 rfl 2 rfl ?_
        refine g_dup X dX5_termReads_43 rfl ?_
        refine g_get X fl_RX5_22 dX5_termReads_44 kd_1 (v := .int (mI q4.2 1 2)) rfl ?_
        refine g_iconst X dX5_termReads_47 (v := (1 : Int32)) ic_1 ?_
        refine g_iadd X dX5_termReads_48 ?_
        refine g_putI X fl_RX5_22 dX5_termReads_49 kd_1 rfl rfl rfl ?_
        refine g_aload_n X dX5_termReads_52 rfl 1 rfl ?_
        refine g_aload_n X dX5_termReads_53 rfl 2 rfl ?_
        refine g_iload_n X dX5_termReads_54 rfl 3 rfl ?_
        obtain ⟨q10, hq10, h⟩ := Option.bind_eq_some_iff.mp h
        refine g_cV X (hrec2 h0 hq10) lk_RX5_74 my_X5_atomReads (a := x0) (ci := 5) h0 (by decide) rfl (As := [.ref (be θ + 1), .int x2]) (rest := []) rfl rfl (Nat.le_of_ble_eq_true rfl) ⟨Nat.le_refl _, (by show 8 + (5 + 11) + 40 * (1 + nr) ≤ 40 * (1 + nr + 1); omega)⟩ ⟨(Nat.le_of_ble_eq_true rfl), (Nat.le_of_ble_eq_true rfl)⟩ dX5_termReads_55 (st' := [.int q10.1]) (σ' := q10.2) rfl rfl ?_
        refine g_if_ne (tgt := 63) X dX5_termReads_58 (by decide) (fun c11 => ?_) (fun c11 => ?_)
        · replace h := (if_neg c11).symm.trans h
          refine g_aload_n X dX5_termReads_63 rfl 1 rfl ?_
          refine g_iload X dX5_termReads_64 0 rfl ?_
          refine g_ineg X dX5_termReads_66 ?_
          obtain ⟨q12, hq12, h⟩ := Option.bind_eq_some_iff.mp h
          refine g_cV X (c_Law_put h0 hq12) lk_RX5_52 my_X5_put (a := x0) (ci := 5) h0 (by decide) rfl (As := [.int (-q4.1)]) (rest := []) rfl rfl (Nat.le_of_ble_eq_true rfl) ⟨(by show 0 + 1 ≤ 1 + nr + 1; omega), (by show 8 + (2 + 11) + 40 * 0 ≤ 40 * (1 + nr + 1); omega)⟩ ⟨(Nat.le_of_ble_eq_true rfl), (Nat.le_of_ble_eq_true rfl)⟩ dX5_termReads_67 (st' := []) (σ' := q12) rfl rfl ?_
          refine g_iinc X dX5_termReads_70 (kq := 4) rfl (congrArg (HAdd.hAdd _) ic_1) (by decide) (lv' := [(3, .int (z3 + (1 : Int32))), (4, .int q4.1), (0, .ref (be θ + x0)), (1, .ref (be θ + 1)), (2, .int x2)]) rfl ?_
          refine g_goto (tgt := 13) X dX5_termReads_73 (by decide) ?_
          have hk := inl_hk h hk
          exact g_sub (lv' := [(0, .ref (be θ + x0)), (1, .ref (be θ + 1)), (2, .int x2), (3, .int (z3 + (1 : Int32)))]) [2, 3, 4, 0] rfl hk
        · replace h := (if_pos c11).symm.trans h
          refine g_iconst X dX5_termReads_61 (v := (0 : Int32)) ic_0 ?_
          have hk := inr_hk h hk
          have hk : ((0 : Int32), q10.2) = r := hk
          subst hk
          exact g_zret X hr hlk bz0 dX5_termReads_62 rfl
      · replace h := (if_neg c9).symm.trans h
        refine g_iconst X dX5_termReads_40 (v := (1 : Int32)) ic_1 ?_
        have hk := inr_hk h hk
        have hk : ((1 : Int32), q4.2) = r := hk
        subst hk
        exact g_zret X hr hlk bz1 dX5_termReads_41 rfl
set_option maxHeartbeats 4000000 in
set_option maxRecDepth 20000 in
theorem gl_Law_termReads_L13 (X : Cx θ p s m args c cX5_termReads 5 RX5) (hr : meth.sig.returnType = some .boolean) (hlk : meth.locks = false) {rc : Nat → Mem → Nat → Int32 → Option (Int32 × Mem)} {nr : Nat} (hrec0 : ∀ {σ : Mem} {x0 : Nat} {x2 : Int32} {r : Int32 × Mem}, kd x0 = 6 → rc 0 σ x0 x2 = some r → Cn θ l yX5_sumReads cX5_sumReads 5 (some .boolean) (1 + nr) 0 0 [.ref (be θ + x0), .ref (be θ + 1), .int x2] σ (some (.int r.1), r.2)) (hrec1 : ∀ {σ : Mem} {x0 : Nat} {x2 : Int32} {r : Int32 × Mem}, kd x0 = 6 → rc 1 σ x0 x2 = some r → Cn θ l yX5_termReads cX5_termReads 5 (some .boolean) (1 + nr) 0 0 [.ref (be θ + x0), .ref (be θ + 1), .int x2] σ (some (.int r.1), r.2)) (hrec2 : ∀ {σ : Mem} {x0 : Nat} {x2 : Int32} {r : Int32 × Mem}, kd x0 = 6 → rc 2 σ x0 x2 = some r → Cn θ l yX5_atomReads cX5_atomReads 5 (some .boolean) (1 + nr) 0 0 [.ref (be θ + x0), .ref (be θ + 1), .int x2] σ (some (.int r.1), r.2))  {x0 : Nat} {x2 : Int32} {r : Int32 × Mem} (h0 : kd x0 = 6) (n : Nat) (a : Mem × Int32) (b : Int32 × Mem) (h : loopF (f_Law_termReads_L13 rc x0 x2) n a = some b) (hk : (fun b => b = r) b) : (fun a => @Prod.casesOn (Mem) (Int32) (fun _ => Prop) a fun τ z3 => GB θ p l e (1 + nr + 1) s m args below meth c 5 (some (.int r.1), r.2) 13 [(0, .ref (be θ + x0)), (1, .ref (be θ + 1)), (2, .int x2), (3, .int z3)] [] τ) a :=
  loopF_by (P := (fun a => @Prod.casesOn (Mem) (Int32) (fun _ => Prop) a fun τ z3 => GB θ p l e (1 + nr + 1) s m args below meth c 5 (some (.int r.1), r.2) 13 [(0, .ref (be θ + x0)), (1, .ref (be θ + 1)), (2, .int x2), (3, .int z3)] [] τ)) (K := (fun b => b = r)) (fun a x h hk => by obtain ⟨τ, z3⟩ := a; exact gs_Law_termReads_L13 X hr hlk hrec0 hrec1 hrec2 h0 τ z3 x h hk) n a b h hk
set_option maxHeartbeats 4000000 in
set_option maxRecDepth 20000 in
theorem g_Law_termReads (X : Cx θ p s m args c cX5_termReads 5 RX5) (hr : meth.sig.returnType = some .boolean) (hlk : meth.locks = false) {rc : Nat → Mem → Nat → Int32 → Option (Int32 × Mem)} {nr : Nat} (hrec0 : ∀ {σ : Mem} {x0 : Nat} {x2 : Int32} {r : Int32 × Mem}, kd x0 = 6 → rc 0 σ x0 x2 = some r → Cn θ l yX5_sumReads cX5_sumReads 5 (some .boolean) (1 + nr) 0 0 [.ref (be θ + x0), .ref (be θ + 1), .int x2] σ (some (.int r.1), r.2)) (hrec1 : ∀ {σ : Mem} {x0 : Nat} {x2 : Int32} {r : Int32 × Mem}, kd x0 = 6 → rc 1 σ x0 x2 = some r → Cn θ l yX5_termReads cX5_termReads 5 (some .boolean) (1 + nr) 0 0 [.ref (be θ + x0), .ref (be θ + 1), .int x2] σ (some (.int r.1), r.2)) (hrec2 : ∀ {σ : Mem} {x0 : Nat} {x2 : Int32} {r : Int32 × Mem}, kd x0 = 6 → rc 2 σ x0 x2 = some r → Cn θ l yX5_atomReads cX5_atomReads 5 (some .boolean) (1 + nr) 0 0 [.ref (be θ + x0), .ref (be θ + 1), .int x2] σ (some (.int r.1), r.2))  {σ : Mem} {x0 : Nat} {x2 : Int32} {r : Int32 × Mem} (h0 : kd x0 = 6) (h : f_Law_termReads rc σ x0 x2 = some r) : GB θ p l e (1 + nr + 1) s m args below meth c 5 (some (.int r.1), r.2) 0 [(0, .ref (be θ + x0)), (1, .ref (be θ + 1)), (2, .int x2)] [] σ := by
  unfold f_Law_termReads at h
  refine g_aload_n X dX5_termReads_0 rfl 0 rfl ?_
  refine g_aload_n X dX5_termReads_1 rfl 1 rfl ?_
  refine g_iload_n X dX5_termReads_2 rfl 2 rfl ?_
  obtain ⟨q1, hq1, h⟩ := Option.bind_eq_some_iff.mp h
  refine g_cV X (hrec2 h0 hq1) lk_RX5_74 my_X5_atomReads (a := x0) (ci := 5) h0 (by decide) rfl (As := [.ref (be θ + 1), .int x2]) (rest := []) rfl rfl (Nat.le_of_ble_eq_true rfl) ⟨Nat.le_refl _, (by show 8 + (5 + 11) + 40 * (1 + nr) ≤ 40 * (1 + nr + 1); omega)⟩ ⟨(Nat.le_of_ble_eq_true rfl), (Nat.le_of_ble_eq_true rfl)⟩ dX5_termReads_3 (st' := [.int q1.1]) (σ' := q1.2) rfl rfl ?_
  refine g_if_ne (tgt := 11) X dX5_termReads_6 (by decide) (fun c2 => ?_) (fun c2 => ?_)
  · replace h := (if_neg c2).symm.trans h
    refine g_iconst X dX5_termReads_11 (v := (0 : Int32)) ic_0 ?_
    refine g_istore_n X dX5_termReads_12 rfl (by decide) (lv' := [(3, .int (0 : Int32)), (0, .ref (be θ + x0)), (1, .ref (be θ + 1)), (2, .int x2)]) rfl ?_
    exact g_sub (lv' := [(0, .ref (be θ + x0)), (1, .ref (be θ + 1)), (2, .int x2), (3, .int (0 : Int32))]) [1, 2, 3, 0] rfl (gl_Law_termReads_L13 X hr hlk hrec0 hrec1 hrec2 h0  FU _ _ h rfl)
  · replace h := (if_pos c2).symm.trans h
    refine g_iconst X dX5_termReads_9 (v := (0 : Int32)) ic_0 ?_
    exact g_zret X hr hlk bz0 dX5_termReads_10 (by cases h; rfl)
def f_Law_atomReads_L58 (rc : Nat → Mem → Nat → Int32 → Option (Int32 × Mem)) (σ : Mem) (x0 : Nat) (x2 : Int32) (y3 : Int32) (a : Int32) : Option ((Int32) ⊕ ((Unit) ⊕ (Int32 × Mem))) :=
  if (Int32.ofNat 6) ≤ a then
    some (.inr (.inl ()))
  else
    if inb a 6 then
      if (tb 0 a.toNatClampNeg) = y3 then
        (f_Law_put (sI σ 1 2 ((mI σ 1 2) + (1 : Int32))) x0 ((-1 : Int32) - a)).bind fun q6 =>
        some (.inr (.inr ((1 : Int32), q6)))
      else
        some (.inl (a + (1 : Int32)))
    else none
def f_Law_atomReads (rc : Nat → Mem → Nat → Int32 → Option (Int32 × Mem)) (σ : Mem) (x0 : Nat) (x2 : Int32) : Option (Int32 × Mem) :=
  (f_Tape_sign σ).bind fun q1 =>
  if q1.1 = (91 : Int32) then
    if x2 < (6 : Int32) then
      (rc 0 (sI q1.2 1 2 ((mI q1.2 1 2) + (1 : Int32))) x0 (x2 + (1 : Int32))).bind fun q13 =>
      if q13.1 = (0 : Int32) then
        some ((0 : Int32), q13.2)
      else
        (f_Tape_passes q13.2 (93 : Int32)).bind fun q15 =>
        if q15.1 = (0 : Int32) then
          some ((0 : Int32), q15.2)
        else
          some ((1 : Int32), q15.2)
    else
      some ((0 : Int32), q1.2)
  else
    (loopF (f_Law_atomReads_L58 rc q1.2 x0 x2 q1.1) FU (0 : Int32)).bind fun q7 => Sum.elim (fun w7 =>
        (f_Tape_passesNumber q1.2 (4 : Int32)).bind fun q8 =>
        if q8.1 = (0 : Int32) then
          some ((0 : Int32), q8.2)
        else
          (f_Law_put q8.2 x0 (mI q8.2 1 3)).bind fun q10 =>
          some ((1 : Int32), q10)
        ) (fun t11 => some t11) q7
set_option maxHeartbeats 4000000 in
set_option maxRecDepth 20000 in
theorem gs_Law_atomReads_L58 (X : Cx θ p s m args c cX5_atomReads 5 RX5) (hr : meth.sig.returnType = some .boolean) (hlk : meth.locks = false) {rc : Nat → Mem → Nat → Int32 → Option (Int32 × Mem)} {nr : Nat} (hrec0 : ∀ {σ : Mem} {x0 : Nat} {x2 : Int32} {r : Int32 × Mem}, kd x0 = 6 → rc 0 σ x0 x2 = some r → Cn θ l yX5_sumReads cX5_sumReads 5 (some .boolean) (1 + nr) 0 0 [.ref (be θ + x0), .ref (be θ + 1), .int x2] σ (some (.int r.1), r.2)) (hrec1 : ∀ {σ : Mem} {x0 : Nat} {x2 : Int32} {r : Int32 × Mem}, kd x0 = 6 → rc 1 σ x0 x2 = some r → Cn θ l yX5_termReads cX5_termReads 5 (some .boolean) (1 + nr) 0 0 [.ref (be θ + x0), .ref (be θ + 1), .int x2] σ (some (.int r.1), r.2)) (hrec2 : ∀ {σ : Mem} {x0 : Nat} {x2 : Int32} {r : Int32 × Mem}, kd x0 = 6 → rc 2 σ x0 x2 = some r → Cn θ l yX5_atomReads cX5_atomReads 5 (some .boolean) (1 + nr) 0 0 [.ref (be θ + x0), .ref (be θ + 1), .int x2] σ (some (.int r.1), r.2))  {σ : Mem} {x0 : Nat} {x2 : Int32} {y3 : Int32} {r : Int32 × Mem} (h0 : kd x0 = 6) (a : Int32) (x : (Int32) ⊕ ((Unit) ⊕ (Int32 × Mem))) (h : f_Law_atomReads_L58 rc σ x0 x2 y3 a = some x) (hk : Sum.elim (fun a => GB θ p l e (1 + nr + 1) s m args below meth c 5 (some (.int r.1), r.2) 58 [(0, .ref (be θ + x0)), (1, .ref (be θ + 1)), (2, .int x2), (3, .int y3), (4, .int a)] [] σ) (Sum.elim (fun w => GB θ p l e (1 + nr + 1) s m args below meth c 5 (some (.int r.1), r.2) 103 [(0, .ref (be θ + x0)), (1, .ref (be θ + 1)), (2, .int x2)] [] σ) (fun rt => rt = r)) x) : GB θ p l e (1 + nr + 1) s m args below meth c 5 (some (.int r.1), r.2) 58 [(0, .ref (be θ + x0)), (1, .ref (be θ + 1)), (2, .int x2), (3, .int y3), (4, .int a)] [] σ := by
  unfold f_Law_atomReads_L58 at h
  refine g_iload X dX5_atomReads_58 4 rfl ?_
  refine g_gets X X.2.2.1.1.2.1 fs_RX5_77 dX5_atomReads_60 ?_
  refine g_tlen X X.2.2.1.1.2.2.1 (v := Int32.ofNat 6) rfl dX5_atomReads_63 ?_
  refine g_icmp_ge (tgt := 103) X dX5_atomReads_64 (by decide) (fun c3 => ?_) (fun c3 => ?_)
  · replace h := (if_pos c3).symm.trans h
    have hk := inr_hk h hk
    have hk := inl_el hk
    exact g_sub (lv' := [(0, .ref (be θ + x0)), (1, .ref (be θ + 1)), (2, .int x2)]) [0, 1, 2] rfl hk
  · replace h := (if_neg c3).symm.trans h
    refine g_gets X X.2.2.1.1.2.1 fs_RX5_77 dX5_atomReads_67 ?_
    refine g_iload X dX5_atomReads_70 4 rfl ?_
    obtain ⟨g4, h⟩ := ite_some h
    refine g_tc X X.2.2.1.1.2.2.1 (inb_in g4) dX5_atomReads_72 ?_
    refine g_iload_n X dX5_atomReads_73 rfl 3 rfl ?_
    refine g_icmp_ne (tgt := 97) X dX5_atomReads_74 (by decide) (fun c5 => ?_) (fun c5 => ?_)
    · replace h := (if_neg c5).symm.trans h
      refine g_iinc X dX5_atomReads_97 (kq := 4) rfl (congrArg (HAdd.hAdd _) ic_1) (by decide) (lv' := [(4, .int (a + (1 : Int32))), (0, .ref (be θ + x0)), (1, .ref (be θ + 1)), (2, .int x2), (3, .int y3)]) rfl ?_
      refine g_goto (tgt := 58) X dX5_atomReads_100 (by decide) ?_
      have hk := inl_hk h hk
      exact g_sub (lv' := [(0, .ref (be θ + x0)), (1, .ref (be θ + 1)), (2, .int x2), (3, .int y3), (4, .int (a + (1 : Int32)))]) [1, 2, 3, 4, 0] rfl hk
    · replace h := (if_pos c5).symm.trans h
      refine g_aload_n X dX5_atomReads_77 rfl 1 rfl ?_
      refine g_dup X dX5_atomReads_78 rfl ?_
      refine g_get X fl_RX5_22 dX5_atomReads_79 kd_1 (v := .int (mI σ 1 2)) rfl ?_
      refine g_iconst X dX5_atomReads_82 (v := (1 : Int32)) ic_1 ?_
      refine g_iadd X dX5_atomReads_83 ?_
      refine g_putI X fl_RX5_22 dX5_atomReads_84 kd_1 rfl rfl rfl ?_
      refine g_aload_n X dX5_atomReads_87 rfl 0 rfl ?_
      refine g_iconst X dX5_atomReads_88 (v := (-1 : Int32)) ic_m1 ?_
      refine g_iload X dX5_atomReads_89 4 rfl ?_
      refine g_isub X dX5_atomReads_91 ?_
      obtain ⟨q6, hq6, h⟩ := Option.bind_eq_some_iff.mp h
      refine g_cV X (c_Law_put h0 hq6) lk_RX5_52 my_X5_put (a := x0) (ci := 5) h0 (by decide) rfl (As := [.int ((-1 : Int32) - a)]) (rest := []) rfl rfl (Nat.le_of_ble_eq_true rfl) ⟨(by show 0 + 1 ≤ 1 + nr + 1; omega), (by show 8 + (2 + 11) + 40 * 0 ≤ 40 * (1 + nr + 1); omega)⟩ ⟨(Nat.le_of_ble_eq_true rfl), (Nat.le_of_ble_eq_true rfl)⟩ dX5_atomReads_92 (st' := []) (σ' := q6) rfl rfl ?_
      refine g_iconst X dX5_atomReads_95 (v := (1 : Int32)) ic_1 ?_
      have hk := inr_hk h hk
      have hk := inr_el hk
      have hk : ((1 : Int32), q6) = r := hk
      subst hk
      exact g_zret X hr hlk bz1 dX5_atomReads_96 rfl
set_option maxHeartbeats 4000000 in
set_option maxRecDepth 20000 in
theorem gl_Law_atomReads_L58 (X : Cx θ p s m args c cX5_atomReads 5 RX5) (hr : meth.sig.returnType = some .boolean) (hlk : meth.locks = false) {rc : Nat → Mem → Nat → Int32 → Option (Int32 × Mem)} {nr : Nat} (hrec0 : ∀ {σ : Mem} {x0 : Nat} {x2 : Int32} {r : Int32 × Mem}, kd x0 = 6 → rc 0 σ x0 x2 = some r → Cn θ l yX5_sumReads cX5_sumReads 5 (some .boolean) (1 + nr) 0 0 [.ref (be θ + x0), .ref (be θ + 1), .int x2] σ (some (.int r.1), r.2)) (hrec1 : ∀ {σ : Mem} {x0 : Nat} {x2 : Int32} {r : Int32 × Mem}, kd x0 = 6 → rc 1 σ x0 x2 = some r → Cn θ l yX5_termReads cX5_termReads 5 (some .boolean) (1 + nr) 0 0 [.ref (be θ + x0), .ref (be θ + 1), .int x2] σ (some (.int r.1), r.2)) (hrec2 : ∀ {σ : Mem} {x0 : Nat} {x2 : Int32} {r : Int32 × Mem}, kd x0 = 6 → rc 2 σ x0 x2 = some r → Cn θ l yX5_atomReads cX5_atomReads 5 (some .boolean) (1 + nr) 0 0 [.ref (be θ + x0), .ref (be θ + 1), .int x2] σ (some (.int r.1), r.2))  {σ : Mem} {x0 : Nat} {x2 : Int32} {y3 : Int32} {r : Int32 × Mem} (h0 : kd x0 = 6) (n : Nat) (a : Int32) (b : (Unit) ⊕ (Int32 × Mem)) (h : loopF (f_Law_atomReads_L58 rc σ x0 x2 y3) n a = some b) (hk : (Sum.elim (fun w => GB θ p l e (1 + nr + 1) s m args below meth c 5 (some (.int r.1), r.2) 103 [(0, .ref (be θ + x0)), (1, .ref (be θ + 1)), (2, .int x2)] [] σ) (fun rt => rt = r)) b) : (fun a => GB θ p l e (1 + nr + 1) s m args below meth c 5 (some (.int r.1), r.2) 58 [(0, .ref (be θ + x0)), (1, .ref (be θ + 1)), (2, .int x2), (3, .int y3), (4, .int a)] [] σ) a :=
  loopF_by (P := (fun a => GB θ p l e (1 + nr + 1) s m args below meth c 5 (some (.int r.1), r.2) 58 [(0, .ref (be θ + x0)), (1, .ref (be θ + 1)), (2, .int x2), (3, .int y3), (4, .int a)] [] σ)) (K := (Sum.elim (fun w => GB θ p l e (1 + nr + 1) s m args below meth c 5 (some (.int r.1), r.2) 103 [(0, .ref (be θ + x0)), (1, .ref (be θ + 1)), (2, .int x2)] [] σ) (fun rt => rt = r))) (fun a x h hk => by exact gs_Law_atomReads_L58 X hr hlk hrec0 hrec1 hrec2 h0 a x h hk) n a b h hk
set_option maxHeartbeats 4000000 in
set_option maxRecDepth 20000 in
theorem g_Law_atomReads (X : Cx θ p s m args c cX5_atomReads 5 RX5) (hr : meth.sig.returnType = some .boolean) (hlk : meth.locks = false) {rc : Nat → Mem → Nat → Int32 → Option (Int32 × Mem)} {nr : Nat} (hrec0 : ∀ {σ : Mem} {x0 : Nat} {x2 : Int32} {r : Int32 × Mem}, kd x0 = 6 → rc 0 σ x0 x2 = some r → Cn θ l yX5_sumReads cX5_sumReads 5 (some .boolean) (1 + nr) 0 0 [.ref (be θ + x0), .ref (be θ + 1), .int x2] σ (some (.int r.1), r.2)) (hrec1 : ∀ {σ : Mem} {x0 : Nat} {x2 : Int32} {r : Int32 × Mem}, kd x0 = 6 → rc 1 σ x0 x2 = some r → Cn θ l yX5_termReads cX5_termReads 5 (some .boolean) (1 + nr) 0 0 [.ref (be θ + x0), .ref (be θ + 1), .int x2] σ (some (.int r.1), r.2)) (hrec2 : ∀ {σ : Mem} {x0 : Nat} {x2 : Int32} {r : Int32 × Mem}, kd x0 = 6 → rc 2 σ x0 x2 = some r → Cn θ l yX5_atomReads cX5_atomReads 5 (some .boolean) (1 + nr) 0 0 [.ref (be θ + x0), .ref (be θ + 1), .int x2] σ (some (.int r.1), r.2))  {σ : Mem} {x0 : Nat} {x2 : Int32} {r : Int32 × Mem} (h0 : kd x0 = 6) (h : f_Law_atomReads rc σ x0 x2 = some r) : GB θ p l e (1 + nr + 1) s m args below meth c 5 (some (.int r.1), r.2) 0 [(0, .ref (be θ + x0)), (1, .ref (be θ + 1)), (2, .int x2)] [] σ := by
  unfold f_Law_atomReads at h
  refine g_aload_n X dX5_atomReads_0 rfl 1 rfl ?_
  obtain ⟨q1, hq1, h⟩ := Option.bind_eq_some_iff.mp h
  refine g_cV X (c_Tape_sign  hq1) lk_RX5_31 my_X8_sign (a := 1) (ci := 8) kd_1 (by decide) rfl (As := []) (rest := []) rfl rfl (Nat.le_of_ble_eq_true rfl) ⟨(by show 0 + 1 ≤ 1 + nr + 1; omega), (by show 8 + (1 + 11) + 40 * 0 ≤ 40 * (1 + nr + 1); omega)⟩ ⟨(Nat.le_of_ble_eq_true rfl), (Nat.le_of_ble_eq_true rfl)⟩ dX5_atomReads_1 (st' := [.int q1.1]) (σ' := q1.2) rfl rfl ?_
  refine g_istore_n X dX5_atomReads_4 rfl (by decide) (lv' := [(3, .int q1.1), (0, .ref (be θ + x0)), (1, .ref (be θ + 1)), (2, .int x2)]) rfl ?_
  refine g_iload_n X dX5_atomReads_5 rfl 0 rfl ?_
  refine g_bipush X dX5_atomReads_6 (v := (91 : Int32)) bp_91 ?_
  refine g_icmp_ne (tgt := 55) X dX5_atomReads_8 (by decide) (fun c2 => ?_) (fun c2 => ?_)
  · replace h := (if_neg c2).symm.trans h
    refine g_iconst X dX5_atomReads_55 (v := (0 : Int32)) ic_0 ?_
    refine g_istore X dX5_atomReads_56 (by decide) (lv' := [(4, .int (0 : Int32)), (3, .int q1.1), (0, .ref (be θ + x0)), (1, .ref (be θ + 1)), (2, .int x2)]) rfl ?_
    obtain ⟨q7, hq7, h⟩ := Option.bind_eq_some_iff.mp h
    refine g_sub (lv' := [(0, .ref (be θ + x0)), (1, .ref (be θ + 1)), (2, .int x2), (3, .int q1.1), (4, .int (0 : Int32))]) [2, 3, 4, 1, 0] rfl (gl_Law_atomReads_L58 X hr hlk hrec0 hrec1 hrec2 h0  FU _ q7 hq7 ?_)
    rcases q7 with w7 | t11
    · simp only [Sum.elim_inl] at h ⊢
      refine g_aload_n X dX5_atomReads_103 rfl 1 rfl ?_
      refine g_iconst X dX5_atomReads_104 (v := (4 : Int32)) ic_4 ?_
      obtain ⟨q8, hq8, h⟩ := Option.bind_eq_some_iff.mp h
      refine g_cV X (c_Tape_passesNumber  hq8) lk_RX5_81 my_X8_passesNumber (a := 1) (ci := 8) kd_1 (by decide) rfl (As := [.int (4 : Int32)]) (rest := []) rfl rfl (Nat.le_of_ble_eq_true rfl) ⟨(by show 1 + 1 ≤ 1 + nr + 1; omega), (by show 8 + (3 + 11) + 40 * 1 ≤ 40 * (1 + nr + 1); omega)⟩ ⟨(Nat.le_of_ble_eq_true rfl), (Nat.le_of_ble_eq_true rfl)⟩ dX5_atomReads_105 (st' := [.int q8.1]) (σ' := q8.2) rfl rfl ?_
      refine g_if_ne (tgt := 113) X dX5_atomReads_108 (by decide) (fun c9 => ?_) (fun c9 => ?_)
      · replace h := (if_neg c9).symm.trans h
        refine g_aload_n X dX5_atomReads_113 rfl 0 rfl ?_
        refine g_aload_n X dX5_atomReads_114 rfl 1 rfl ?_
        refine g_get X fl_RX5_84 dX5_atomReads_115 kd_1 (v := .int (mI q8.2 1 3)) rfl ?_
        obtain ⟨q10, hq10, h⟩ := Option.bind_eq_some_iff.mp h
        refine g_cV X (c_Law_put h0 hq10) lk_RX5_52 my_X5_put (a := x0) (ci := 5) h0 (by decide) rfl (As := [.int (mI q8.2 1 3)]) (rest := []) rfl rfl (Nat.le_of_ble_eq_true rfl) ⟨(by show 0 + 1 ≤ 1 + nr + 1; omega), (by show 8 + (2 + 11) + 40 * 0 ≤ 40 * (1 + nr + 1); omega)⟩ ⟨(Nat.le_of_ble_eq_true rfl), (Nat.le_of_ble_eq_true rfl)⟩ dX5_atomReads_118 (st' := []) (σ' := q10) rfl rfl ?_
        refine g_iconst X dX5_atomReads_121 (v := (1 : Int32)) ic_1 ?_
        exact g_zret X hr hlk bz1 dX5_atomReads_122 (by cases h; rfl)
      · replace h := (if_pos c9).symm.trans h
        refine g_iconst X dX5_atomReads_111 (v := (0 : Int32)) ic_0 ?_
        exact g_zret X hr hlk bz0 dX5_atomReads_112 (by cases h; rfl)
    · simp only [Sum.elim_inr] at h ⊢
      exact Option.some.inj h
  · replace h := (if_pos c2).symm.trans h
    refine g_iload_n X dX5_atomReads_11 rfl 3 rfl ?_
    refine g_bipush X dX5_atomReads_12 (v := (6 : Int32)) bp_6 ?_
    refine g_icmp_lt (tgt := 19) X dX5_atomReads_14 (by decide) (fun c12 => ?_) (fun c12 => ?_)
    · replace h := (if_pos c12).symm.trans h
      refine g_aload_n X dX5_atomReads_19 rfl 2 rfl ?_
      refine g_dup X dX5_atomReads_20 rfl ?_
      refine g_get X fl_RX5_22 dX5_atomReads_21 kd_1 (v := .int (mI q1.2 1 2)) rfl ?_
      refine g_iconst X dX5_atomReads_24 (v := (1 : Int32)) ic_1 ?_
      refine g_iadd X dX5_atomReads_25 ?_
      refine g_putI X fl_RX5_22 dX5_atomReads_26 kd_1 rfl rfl rfl ?_
      refine g_aload_n X dX5_atomReads_29 rfl 1 rfl ?_
      refine g_aload_n X dX5_atomReads_30 rfl 2 rfl ?_
      refine g_iload_n X dX5_atomReads_31 rfl 3 rfl ?_
      refine g_iconst X dX5_atomReads_32 (v := (1 : Int32)) ic_1 ?_
      refine g_iadd X dX5_atomReads_33 ?_
      obtain ⟨q13, hq13, h⟩ := Option.bind_eq_some_iff.mp h
      refine g_cV X (hrec0 h0 hq13) lk_RX5_46 my_X5_sumReads (a := x0) (ci := 5) h0 (by decide) rfl (As := [.ref (be θ + 1), .int (x2 + (1 : Int32))]) (rest := []) rfl rfl (Nat.le_of_ble_eq_true rfl) ⟨Nat.le_refl _, (by show 8 + (5 + 11) + 40 * (1 + nr) ≤ 40 * (1 + nr + 1); omega)⟩ ⟨(Nat.le_of_ble_eq_true rfl), (Nat.le_of_ble_eq_true rfl)⟩ dX5_atomReads_34 (st' := [.int q13.1]) (σ' := q13.2) rfl rfl ?_
      refine g_if_eq (tgt := 53) X dX5_atomReads_37 (by decide) (fun c14 => ?_) (fun c14 => ?_)
      · replace h := (if_pos c14).symm.trans h
        refine g_iconst X dX5_atomReads_53 (v := (0 : Int32)) ic_0 ?_
        exact g_zret X hr hlk bz0 dX5_atomReads_54 (by cases h; rfl)
      · replace h := (if_neg c14).symm.trans h
        refine g_aload_n X dX5_atomReads_40 rfl 2 rfl ?_
        refine g_bipush X dX5_atomReads_41 (v := (93 : Int32)) bp_93 ?_
        obtain ⟨q15, hq15, h⟩ := Option.bind_eq_some_iff.mp h
        refine g_cV X (c_Tape_passes  hq15) lk_RX5_35 my_X8_passes (a := 1) (ci := 8) kd_1 (by decide) rfl (As := [.int (93 : Int32)]) (rest := []) rfl rfl (Nat.le_of_ble_eq_true rfl) ⟨(by show 1 + 1 ≤ 1 + nr + 1; omega), (by show 8 + (2 + 11) + 40 * 1 ≤ 40 * (1 + nr + 1); omega)⟩ ⟨(Nat.le_of_ble_eq_true rfl), (Nat.le_of_ble_eq_true rfl)⟩ dX5_atomReads_43 (st' := [.int q15.1]) (σ' := q15.2) rfl rfl ?_
        refine g_if_eq (tgt := 53) X dX5_atomReads_46 (by decide) (fun c16 => ?_) (fun c16 => ?_)
        · replace h := (if_pos c16).symm.trans h
          refine g_iconst X dX5_atomReads_53 (v := (0 : Int32)) ic_0 ?_
          exact g_zret X hr hlk bz0 dX5_atomReads_54 (by cases h; rfl)
        · replace h := (if_neg c16).symm.trans h
          refine g_iconst X dX5_atomReads_49 (v := (1 : Int32)) ic_1 ?_
          refine g_goto (tgt := 54) X dX5_atomReads_50 (by decide) ?_
          exact g_zret X hr hlk bz1 dX5_atomReads_54 (by cases h; rfl)
    · replace h := (if_neg c12).symm.trans h
      refine g_iconst X dX5_atomReads_17 (v := (0 : Int32)) ic_0 ?_
      exact g_zret X hr hlk bz0 dX5_atomReads_18 (by cases h; rfl)
def f_LS : Nat → Nat → Mem → Nat → Int32 → Option (Int32 × Mem)
  | 0 => fun _ _ _ _ => none
  | n + 1 => fun no σ z0 z1 => if no = 0 then f_Law_sumReads (f_LS n) σ z0 z1 else if no = 1 then f_Law_termReads (f_LS n) σ z0 z1 else f_Law_atomReads (f_LS n) σ z0 z1
set_option maxHeartbeats 4000000 in
set_option maxRecDepth 100000 in
theorem a_LS {θ : Th} {l : Launch} : ∀ n : Nat, (∀ {σ : Mem} {x0 : Nat} {x2 : Int32} {r : Int32 × Mem}, kd x0 = 6 → f_LS n 0 σ x0 x2 = some r → Cn θ l yX5_sumReads cX5_sumReads 5 (some .boolean) (1 + n) 0 0 [.ref (be θ + x0), .ref (be θ + 1), .int x2] σ (some (.int r.1), r.2)) ∧ (∀ {σ : Mem} {x0 : Nat} {x2 : Int32} {r : Int32 × Mem}, kd x0 = 6 → f_LS n 1 σ x0 x2 = some r → Cn θ l yX5_termReads cX5_termReads 5 (some .boolean) (1 + n) 0 0 [.ref (be θ + x0), .ref (be θ + 1), .int x2] σ (some (.int r.1), r.2)) ∧ (∀ {σ : Mem} {x0 : Nat} {x2 : Int32} {r : Int32 × Mem}, kd x0 = 6 → f_LS n 2 σ x0 x2 = some r → Cn θ l yX5_atomReads cX5_atomReads 5 (some .boolean) (1 + n) 0 0 [.ref (be θ + x0), .ref (be θ + 1), .int x2] σ (some (.int r.1), r.2)) := by
  intro n
  induction n with
  | zero =>
    refine ⟨?_, ?_, ?_⟩
    · intro σ x0 x2 r h0 h
      cases h
    · intro σ x0 x2 r h0 h
      cases h
    · intro σ x0 x2 r h0 h
      cases h
  | succ n ih =>
    obtain ⟨i0, i1, i2⟩ := ih
    refine ⟨?_, ?_, ?_⟩
    · intro σ x0 x2 r h0 h
      exact Cn.of (by decide) (Nat.le_of_ble_eq_true rfl) (fun p e s m below meth c X hr hlk => g_Law_sumReads (nr := n) (rc := f_LS n) X hr hlk i0 i1 i2 h0 h)
    · intro σ x0 x2 r h0 h
      exact Cn.of (by decide) (Nat.le_of_ble_eq_true rfl) (fun p e s m below meth c X hr hlk => g_Law_termReads (nr := n) (rc := f_LS n) X hr hlk i0 i1 i2 h0 h)
    · intro σ x0 x2 r h0 h
      exact Cn.of (by decide) (Nat.le_of_ble_eq_true rfl) (fun p e s m below meth c X hr hlk => g_Law_atomReads (nr := n) (rc := f_LS n) X hr hlk i0 i1 i2 h0 h)
set_option maxRecDepth 100000 in
theorem c_LS_0 {θ : Th} {l : Launch} : ∀ {σ : Mem} {x0 : Nat} {x2 : Int32} {r : Int32 × Mem}, kd x0 = 6 → f_LS 24 0 σ x0 x2 = some r → Cn θ l yX5_sumReads cX5_sumReads 5 (some .boolean) 25 0 0 [.ref (be θ + x0), .ref (be θ + 1), .int x2] σ (some (.int r.1), r.2) := (a_LS 24).1
set_option maxRecDepth 100000 in
theorem c_LS_1 {θ : Th} {l : Launch} : ∀ {σ : Mem} {x0 : Nat} {x2 : Int32} {r : Int32 × Mem}, kd x0 = 6 → f_LS 24 1 σ x0 x2 = some r → Cn θ l yX5_termReads cX5_termReads 5 (some .boolean) 25 0 0 [.ref (be θ + x0), .ref (be θ + 1), .int x2] σ (some (.int r.1), r.2) := (a_LS 24).2.1
set_option maxRecDepth 100000 in
theorem c_LS_2 {θ : Th} {l : Launch} : ∀ {σ : Mem} {x0 : Nat} {x2 : Int32} {r : Int32 × Mem}, kd x0 = 6 → f_LS 24 2 σ x0 x2 = some r → Cn θ l yX5_atomReads cX5_atomReads 5 (some .boolean) 25 0 0 [.ref (be θ + x0), .ref (be θ + 1), .int x2] σ (some (.int r.1), r.2) := (a_LS 24).2.2
theorem dX5_isComparison_0 : decode cX5_isComparison 0 = .ok (.iload_n 1, 1) := by decide +kernel
theorem dX5_isComparison_1 : decode cX5_isComparison 1 = .ok (.bipush 61, 2) := by decide +kernel
theorem dX5_isComparison_3 : decode cX5_isComparison 3 = .ok (.if_icmp .eq 15, 3) := by decide +kernel
theorem dX5_isComparison_6 : decode cX5_isComparison 6 = .ok (.iload_n 1, 1) := by decide +kernel
theorem dX5_isComparison_7 : decode cX5_isComparison 7 = .ok (.bipush 60, 2) := by decide +kernel
theorem dX5_isComparison_9 : decode cX5_isComparison 9 = .ok (.if_icmp .eq 9, 3) := by decide +kernel
theorem dX5_isComparison_12 : decode cX5_isComparison 12 = .ok (.iload_n 1, 1) := by decide +kernel
theorem dX5_isComparison_13 : decode cX5_isComparison 13 = .ok (.bipush 62, 2) := by decide +kernel
theorem dX5_isComparison_15 : decode cX5_isComparison 15 = .ok (.if_icmp .ne 7, 3) := by decide +kernel
theorem dX5_isComparison_18 : decode cX5_isComparison 18 = .ok (.iconst 1, 1) := by decide +kernel
theorem dX5_isComparison_19 : decode cX5_isComparison 19 = .ok (.goto 4, 3) := by decide +kernel
theorem dX5_isComparison_22 : decode cX5_isComparison 22 = .ok (.iconst 0, 1) := by decide +kernel
theorem dX5_isComparison_23 : decode cX5_isComparison 23 = .ok (.ireturn, 1) := by decide +kernel
def f_Law_isComparison (σ : Mem) (x0 : Nat) (x1 : Int32) : Option (Int32) :=
  if x1 = (61 : Int32) then
    some (1 : Int32)
  else
    if x1 = (60 : Int32) then
      some (1 : Int32)
    else
      if x1 = (62 : Int32) then
        some (1 : Int32)
      else
        some (0 : Int32)
set_option maxHeartbeats 4000000 in
set_option maxRecDepth 20000 in
theorem g_Law_isComparison (X : Cx θ p s m args c cX5_isComparison 2 RX5) (hr : meth.sig.returnType = some .boolean) (hlk : meth.locks = false)  {σ : Mem} {x0 : Nat} {x1 : Int32} {r : Int32} (h0 : kd x0 = 6) (h : f_Law_isComparison σ x0 x1 = some r) : GB θ p l e 0 s m args below meth c 2 (some (.int r), σ) 0 [(0, .ref (be θ + x0)), (1, .int x1)] [] σ := by
  unfold f_Law_isComparison at h
  refine g_iload_n X dX5_isComparison_0 rfl 1 rfl ?_
  refine g_bipush X dX5_isComparison_1 (v := (61 : Int32)) bp_61 ?_
  refine g_icmp_eq (tgt := 18) X dX5_isComparison_3 (by decide) (fun c1 => ?_) (fun c1 => ?_)
  · replace h := (if_pos c1).symm.trans h
    refine g_iconst X dX5_isComparison_18 (v := (1 : Int32)) ic_1 ?_
    refine g_goto (tgt := 23) X dX5_isComparison_19 (by decide) ?_
    exact g_zret X hr hlk bz1 dX5_isComparison_23 (by cases h; rfl)
  · replace h := (if_neg c1).symm.trans h
    refine g_iload_n X dX5_isComparison_6 rfl 1 rfl ?_
    refine g_bipush X dX5_isComparison_7 (v := (60 : Int32)) bp_60 ?_
    refine g_icmp_eq (tgt := 18) X dX5_isComparison_9 (by decide) (fun c2 => ?_) (fun c2 => ?_)
    · replace h := (if_pos c2).symm.trans h
      refine g_iconst X dX5_isComparison_18 (v := (1 : Int32)) ic_1 ?_
      refine g_goto (tgt := 23) X dX5_isComparison_19 (by decide) ?_
      exact g_zret X hr hlk bz1 dX5_isComparison_23 (by cases h; rfl)
    · replace h := (if_neg c2).symm.trans h
      refine g_iload_n X dX5_isComparison_12 rfl 1 rfl ?_
      refine g_bipush X dX5_isComparison_13 (v := (62 : Int32)) bp_62 ?_
      refine g_icmp_ne (tgt := 22) X dX5_isComparison_15 (by decide) (fun c3 => ?_) (fun c3 => ?_)
      · replace h := (if_neg c3).symm.trans h
        refine g_iconst X dX5_isComparison_22 (v := (0 : Int32)) ic_0 ?_
        exact g_zret X hr hlk bz0 dX5_isComparison_23 (by cases h; rfl)
      · replace h := (if_pos c3).symm.trans h
        refine g_iconst X dX5_isComparison_18 (v := (1 : Int32)) ic_1 ?_
        refine g_goto (tgt := 23) X dX5_isComparison_19 (by decide) ?_
        exact g_zret X hr hlk bz1 dX5_isComparison_23 (by cases h; rfl)
set_option maxHeartbeats 4000000 in
set_option maxRecDepth 20000 in
theorem c_Law_isComparison {θ : Th} {l : Launch} {σ : Mem} {x0 : Nat} {x1 : Int32} {r : Int32} (h0 : kd x0 = 6) (h : f_Law_isComparison σ x0 x1 = some r) : Cn θ l yX5_isComparison cX5_isComparison 2 (some .boolean) 0 0 0 [.ref (be θ + x0), .int x1] σ (some (.int r), σ) :=
  Cn.of (by decide) (Nat.le_of_ble_eq_true rfl) (fun p e s m below meth c X hr hlk => g_Law_isComparison X hr hlk h0 h)
theorem dX5_comparisonReads_0 : decode cX5_comparisonReads 0 = .ok (.aload_n 1, 1) := by decide +kernel
theorem dX5_comparisonReads_1 : decode cX5_comparisonReads 1 = .ok (.invokevirtual 31, 3) := by decide +kernel
theorem dX5_comparisonReads_4 : decode cX5_comparisonReads 4 = .ok (.istore_n 3, 1) := by decide +kernel
theorem dX5_comparisonReads_5 : decode cX5_comparisonReads 5 = .ok (.aload_n 0, 1) := by decide +kernel
theorem dX5_comparisonReads_6 : decode cX5_comparisonReads 6 = .ok (.iload_n 3, 1) := by decide +kernel
theorem dX5_comparisonReads_7 : decode cX5_comparisonReads 7 = .ok (.invokevirtual 49, 3) := by decide +kernel
theorem dX5_comparisonReads_10 : decode cX5_comparisonReads 10 = .ok (.ifCond .ne 5, 3) := by decide +kernel
theorem dX5_comparisonReads_13 : decode cX5_comparisonReads 13 = .ok (.iconst 0, 1) := by decide +kernel
theorem dX5_comparisonReads_14 : decode cX5_comparisonReads 14 = .ok (.ireturn, 1) := by decide +kernel
theorem dX5_comparisonReads_15 : decode cX5_comparisonReads 15 = .ok (.aload_n 1, 1) := by decide +kernel
theorem dX5_comparisonReads_16 : decode cX5_comparisonReads 16 = .ok (.dup, 1) := by decide +kernel
theorem dX5_comparisonReads_17 : decode cX5_comparisonReads 17 = .ok (.getfield 22, 3) := by decide +kernel
theorem dX5_comparisonReads_20 : decode cX5_comparisonReads 20 = .ok (.iconst 1, 1) := by decide +kernel
theorem dX5_comparisonReads_21 : decode cX5_comparisonReads 21 = .ok (.iadd, 1) := by decide +kernel
theorem dX5_comparisonReads_22 : decode cX5_comparisonReads 22 = .ok (.putfield 22, 3) := by decide +kernel
theorem dX5_comparisonReads_25 : decode cX5_comparisonReads 25 = .ok (.aload_n 0, 1) := by decide +kernel
theorem dX5_comparisonReads_26 : decode cX5_comparisonReads 26 = .ok (.aload_n 1, 1) := by decide +kernel
theorem dX5_comparisonReads_27 : decode cX5_comparisonReads 27 = .ok (.iload_n 2, 1) := by decide +kernel
theorem dX5_comparisonReads_28 : decode cX5_comparisonReads 28 = .ok (.invokevirtual 46, 3) := by decide +kernel
theorem dX5_comparisonReads_31 : decode cX5_comparisonReads 31 = .ok (.ifCond .ne 5, 3) := by decide +kernel
theorem dX5_comparisonReads_34 : decode cX5_comparisonReads 34 = .ok (.iconst 0, 1) := by decide +kernel
theorem dX5_comparisonReads_35 : decode cX5_comparisonReads 35 = .ok (.ireturn, 1) := by decide +kernel
theorem dX5_comparisonReads_36 : decode cX5_comparisonReads 36 = .ok (.aload_n 0, 1) := by decide +kernel
theorem dX5_comparisonReads_37 : decode cX5_comparisonReads 37 = .ok (.iload_n 3, 1) := by decide +kernel
theorem dX5_comparisonReads_38 : decode cX5_comparisonReads 38 = .ok (.ineg, 1) := by decide +kernel
theorem dX5_comparisonReads_39 : decode cX5_comparisonReads 39 = .ok (.invokevirtual 52, 3) := by decide +kernel
theorem dX5_comparisonReads_42 : decode cX5_comparisonReads 42 = .ok (.iconst 1, 1) := by decide +kernel
theorem dX5_comparisonReads_43 : decode cX5_comparisonReads 43 = .ok (.ireturn, 1) := by decide +kernel
def f_Law_comparisonReads (σ : Mem) (x0 : Nat) (x2 : Int32) : Option (Int32 × Mem) :=
  (f_Tape_sign σ).bind fun q1 =>
  (f_Law_isComparison q1.2 x0 q1.1).bind fun q2 =>
  if q2 = (0 : Int32) then
    some ((0 : Int32), q1.2)
  else
    (f_LS 24 0 (sI q1.2 1 2 ((mI q1.2 1 2) + (1 : Int32))) x0 x2).bind fun q4 =>
    if q4.1 = (0 : Int32) then
      some ((0 : Int32), q4.2)
    else
      (f_Law_put q4.2 x0 (-q1.1)).bind fun q6 =>
      some ((1 : Int32), q6)
set_option maxHeartbeats 4000000 in
set_option maxRecDepth 20000 in
theorem g_Law_comparisonReads (X : Cx θ p s m args c cX5_comparisonReads 4 RX5) (hr : meth.sig.returnType = some .boolean) (hlk : meth.locks = false)  {σ : Mem} {x0 : Nat} {x2 : Int32} {r : Int32 × Mem} (h0 : kd x0 = 6) (h : f_Law_comparisonReads σ x0 x2 = some r) : GB θ p l e 26 s m args below meth c 4 (some (.int r.1), r.2) 0 [(0, .ref (be θ + x0)), (1, .ref (be θ + 1)), (2, .int x2)] [] σ := by
  unfold f_Law_comparisonReads at h
  refine g_aload_n X dX5_comparisonReads_0 rfl 1 rfl ?_
  obtain ⟨q1, hq1, h⟩ := Option.bind_eq_some_iff.mp h
  refine g_cV X (c_Tape_sign  hq1) lk_RX5_31 my_X8_sign (a := 1) (ci := 8) kd_1 (by decide) rfl (As := []) (rest := []) rfl rfl (Nat.le_of_ble_eq_true rfl) ⟨(Nat.le_of_ble_eq_true rfl), (Nat.le_of_ble_eq_true rfl)⟩ ⟨(Nat.le_of_ble_eq_true rfl), (Nat.le_of_ble_eq_true rfl)⟩ dX5_comparisonReads_1 (st' := [.int q1.1]) (σ' := q1.2) rfl rfl ?_
  refine g_istore_n X dX5_comparisonReads_4 rfl (by decide) (lv' := [(3, .int q1.1), (0, .ref (be θ + x0)), (1, .ref (be θ + 1)), (2, .int x2)]) rfl ?_
  refine g_aload_n X dX5_comparisonReads_5 rfl 1 rfl ?_
  refine g_iload_n X dX5_comparisonReads_6 rfl 0 rfl ?_
  obtain ⟨q2, hq2, h⟩ := Option.bind_eq_some_iff.mp h
  refine g_cV X (c_Law_isComparison h0 hq2) lk_RX5_49 my_X5_isComparison (a := x0) (ci := 5) h0 (by decide) rfl (As := [.int q1.1]) (rest := []) rfl rfl (Nat.le_of_ble_eq_true rfl) ⟨(Nat.le_of_ble_eq_true rfl), (Nat.le_of_ble_eq_true rfl)⟩ ⟨(Nat.le_of_ble_eq_true rfl), (Nat.le_of_ble_eq_true rfl)⟩ dX5_comparisonReads_7 (st' := [.int q2]) (σ' := q1.2) rfl rfl ?_
  refine g_if_ne (tgt := 15) X dX5_comparisonReads_10 (by decide) (fun c3 => ?_) (fun c3 => ?_)
  · replace h := (if_neg c3).symm.trans h
    refine g_aload_n X dX5_comparisonReads_15 rfl 2 rfl ?_
    refine g_dup X dX5_comparisonReads_16 rfl ?_
    refine g_get X fl_RX5_22 dX5_comparisonReads_17 kd_1 (v := .int (mI q1.2 1 2)) rfl ?_
    refine g_iconst X dX5_comparisonReads_20 (v := (1 : Int32)) ic_1 ?_
    refine g_iadd X dX5_comparisonReads_21 ?_
    refine g_putI X fl_RX5_22 dX5_comparisonReads_22 kd_1 rfl rfl rfl ?_
    refine g_aload_n X dX5_comparisonReads_25 rfl 1 rfl ?_
    refine g_aload_n X dX5_comparisonReads_26 rfl 2 rfl ?_
    refine g_iload_n X dX5_comparisonReads_27 rfl 3 rfl ?_
    obtain ⟨q4, hq4, h⟩ := Option.bind_eq_some_iff.mp h
    refine g_cV X (c_LS_0 h0 hq4) lk_RX5_46 my_X5_sumReads (a := x0) (ci := 5) h0 (by decide) rfl (As := [.ref (be θ + 1), .int x2]) (rest := []) rfl rfl (Nat.le_of_ble_eq_true rfl) ⟨(Nat.le_of_ble_eq_true rfl), (Nat.le_of_ble_eq_true rfl)⟩ ⟨(Nat.le_of_ble_eq_true rfl), (Nat.le_of_ble_eq_true rfl)⟩ dX5_comparisonReads_28 (st' := [.int q4.1]) (σ' := q4.2) rfl rfl ?_
    refine g_if_ne (tgt := 36) X dX5_comparisonReads_31 (by decide) (fun c5 => ?_) (fun c5 => ?_)
    · replace h := (if_neg c5).symm.trans h
      refine g_aload_n X dX5_comparisonReads_36 rfl 1 rfl ?_
      refine g_iload_n X dX5_comparisonReads_37 rfl 0 rfl ?_
      refine g_ineg X dX5_comparisonReads_38 ?_
      obtain ⟨q6, hq6, h⟩ := Option.bind_eq_some_iff.mp h
      refine g_cV X (c_Law_put h0 hq6) lk_RX5_52 my_X5_put (a := x0) (ci := 5) h0 (by decide) rfl (As := [.int (-q1.1)]) (rest := []) rfl rfl (Nat.le_of_ble_eq_true rfl) ⟨(Nat.le_of_ble_eq_true rfl), (Nat.le_of_ble_eq_true rfl)⟩ ⟨(Nat.le_of_ble_eq_true rfl), (Nat.le_of_ble_eq_true rfl)⟩ dX5_comparisonReads_39 (st' := []) (σ' := q6) rfl rfl ?_
      refine g_iconst X dX5_comparisonReads_42 (v := (1 : Int32)) ic_1 ?_
      exact g_zret X hr hlk bz1 dX5_comparisonReads_43 (by cases h; rfl)
    · replace h := (if_pos c5).symm.trans h
      refine g_iconst X dX5_comparisonReads_34 (v := (0 : Int32)) ic_0 ?_
      exact g_zret X hr hlk bz0 dX5_comparisonReads_35 (by cases h; rfl)
  · replace h := (if_pos c3).symm.trans h
    refine g_iconst X dX5_comparisonReads_13 (v := (0 : Int32)) ic_0 ?_
    exact g_zret X hr hlk bz0 dX5_comparisonReads_14 (by cases h; rfl)
set_option maxHeartbeats 4000000 in
set_option maxRecDepth 20000 in
theorem c_Law_comparisonReads {θ : Th} {l : Launch} {σ : Mem} {x0 : Nat} {x2 : Int32} {r : Int32 × Mem} (h0 : kd x0 = 6) (h : f_Law_comparisonReads σ x0 x2 = some r) : Cn θ l yX5_comparisonReads cX5_comparisonReads 4 (some .boolean) 26 0 0 [.ref (be θ + x0), .ref (be θ + 1), .int x2] σ (some (.int r.1), r.2) :=
  Cn.of (by decide) (Nat.le_of_ble_eq_true rfl) (fun p e s m below meth c X hr hlk => g_Law_comparisonReads X hr hlk h0 h)
theorem dX5_conditionReads_0 : decode cX5_conditionReads 0 = .ok (.aload_n 0, 1) := by decide +kernel
theorem dX5_conditionReads_1 : decode cX5_conditionReads 1 = .ok (.aload_n 1, 1) := by decide +kernel
theorem dX5_conditionReads_2 : decode cX5_conditionReads 2 = .ok (.iload_n 2, 1) := by decide +kernel
theorem dX5_conditionReads_3 : decode cX5_conditionReads 3 = .ok (.invokevirtual 65, 3) := by decide +kernel
theorem dX5_conditionReads_6 : decode cX5_conditionReads 6 = .ok (.ifCond .eq 16, 3) := by decide +kernel
theorem dX5_conditionReads_9 : decode cX5_conditionReads 9 = .ok (.aload_n 0, 1) := by decide +kernel
theorem dX5_conditionReads_10 : decode cX5_conditionReads 10 = .ok (.aload_n 1, 1) := by decide +kernel
theorem dX5_conditionReads_11 : decode cX5_conditionReads 11 = .ok (.iload_n 2, 1) := by decide +kernel
theorem dX5_conditionReads_12 : decode cX5_conditionReads 12 = .ok (.invokevirtual 62, 3) := by decide +kernel
theorem dX5_conditionReads_15 : decode cX5_conditionReads 15 = .ok (.ifCond .eq 7, 3) := by decide +kernel
theorem dX5_conditionReads_18 : decode cX5_conditionReads 18 = .ok (.iconst 1, 1) := by decide +kernel
theorem dX5_conditionReads_19 : decode cX5_conditionReads 19 = .ok (.goto 4, 3) := by decide +kernel
theorem dX5_conditionReads_22 : decode cX5_conditionReads 22 = .ok (.iconst 0, 1) := by decide +kernel
theorem dX5_conditionReads_23 : decode cX5_conditionReads 23 = .ok (.ireturn, 1) := by decide +kernel
theorem dX5_conditionGoesOn_0 : decode cX5_conditionGoesOn 0 = .ok (.iconst 0, 1) := by decide +kernel
theorem dX5_conditionGoesOn_1 : decode cX5_conditionGoesOn 1 = .ok (.istore_n 3, 1) := by decide +kernel
theorem dX5_conditionGoesOn_2 : decode cX5_conditionGoesOn 2 = .ok (.iload_n 3, 1) := by decide +kernel
theorem dX5_conditionGoesOn_3 : decode cX5_conditionGoesOn 3 = .ok (.sipush 240, 3) := by decide +kernel
theorem dX5_conditionGoesOn_6 : decode cX5_conditionGoesOn 6 = .ok (.if_icmp .ge 37, 3) := by decide +kernel
theorem dX5_conditionGoesOn_9 : decode cX5_conditionGoesOn 9 = .ok (.aload_n 1, 1) := by decide +kernel
theorem dX5_conditionGoesOn_10 : decode cX5_conditionGoesOn 10 = .ok (.bipush 124, 2) := by decide +kernel
theorem dX5_conditionGoesOn_12 : decode cX5_conditionGoesOn 12 = .ok (.invokevirtual 35, 3) := by decide +kernel
theorem dX5_conditionGoesOn_15 : decode cX5_conditionGoesOn 15 = .ok (.ifCond .ne 5, 3) := by decide +kernel
theorem dX5_conditionGoesOn_18 : decode cX5_conditionGoesOn 18 = .ok (.iconst 1, 1) := by decide +kernel
theorem dX5_conditionGoesOn_19 : decode cX5_conditionGoesOn 19 = .ok (.ireturn, 1) := by decide +kernel
theorem dX5_conditionGoesOn_20 : decode cX5_conditionGoesOn 20 = .ok (.aload_n 0, 1) := by decide +kernel
theorem dX5_conditionGoesOn_21 : decode cX5_conditionGoesOn 21 = .ok (.aload_n 1, 1) := by decide +kernel
theorem dX5_conditionGoesOn_22 : decode cX5_conditionGoesOn 22 = .ok (.iload_n 2, 1) := by decide +kernel
theorem dX5_conditionGoesOn_23 : decode cX5_conditionGoesOn 23 = .ok (.invokevirtual 65, 3) := by decide +kernel
theorem dX5_conditionGoesOn_26 : decode cX5_conditionGoesOn 26 = .ok (.ifCond .ne 5, 3) := by decide +kernel
theorem dX5_conditionGoesOn_29 : decode cX5_conditionGoesOn 29 = .ok (.iconst 0, 1) := by decide +kernel
theorem dX5_conditionGoesOn_30 : decode cX5_conditionGoesOn 30 = .ok (.ireturn, 1) := by decide +kernel
theorem dX5_conditionGoesOn_31 : decode cX5_conditionGoesOn 31 = .ok (.aload_n 0, 1) := by decide +kernel
theorem dX5_conditionGoesOn_32 : decode cX5_conditionGoesOn 32 = .ok (.bipush (-124), 2) := by decide +kernel
theorem dX5_conditionGoesOn_34 : decode cX5_conditionGoesOn 34 = .ok (.invokevirtual 52, 3) := by decide +kernel
theorem dX5_conditionGoesOn_37 : decode cX5_conditionGoesOn 37 = .ok (.iinc 3 1, 3) := by decide +kernel
theorem dX5_conditionGoesOn_40 : decode cX5_conditionGoesOn 40 = .ok (.goto (-38), 3) := by decide +kernel
theorem dX5_conditionGoesOn_43 : decode cX5_conditionGoesOn 43 = .ok (.iconst 0, 1) := by decide +kernel
theorem dX5_conditionGoesOn_44 : decode cX5_conditionGoesOn 44 = .ok (.ireturn, 1) := by decide +kernel
theorem dX5_truthReads_0 : decode cX5_truthReads 0 = .ok (.aload_n 0, 1) := by decide +kernel
theorem dX5_truthReads_1 : decode cX5_truthReads 1 = .ok (.aload_n 1, 1) := by decide +kernel
theorem dX5_truthReads_2 : decode cX5_truthReads 2 = .ok (.iload_n 2, 1) := by decide +kernel
theorem dX5_truthReads_3 : decode cX5_truthReads 3 = .ok (.invokevirtual 68, 3) := by decide +kernel
theorem dX5_truthReads_6 : decode cX5_truthReads 6 = .ok (.ifCond .eq 16, 3) := by decide +kernel
theorem dX5_truthReads_9 : decode cX5_truthReads 9 = .ok (.aload_n 0, 1) := by decide +kernel
theorem dX5_truthReads_10 : decode cX5_truthReads 10 = .ok (.aload_n 1, 1) := by decide +kernel
theorem dX5_truthReads_11 : decode cX5_truthReads 11 = .ok (.iload_n 2, 1) := by decide +kernel
theorem dX5_truthReads_12 : decode cX5_truthReads 12 = .ok (.invokevirtual 59, 3) := by decide +kernel
theorem dX5_truthReads_15 : decode cX5_truthReads 15 = .ok (.ifCond .eq 7, 3) := by decide +kernel
theorem dX5_truthReads_18 : decode cX5_truthReads 18 = .ok (.iconst 1, 1) := by decide +kernel
theorem dX5_truthReads_19 : decode cX5_truthReads 19 = .ok (.goto 4, 3) := by decide +kernel
theorem dX5_truthReads_22 : decode cX5_truthReads 22 = .ok (.iconst 0, 1) := by decide +kernel
theorem dX5_truthReads_23 : decode cX5_truthReads 23 = .ok (.ireturn, 1) := by decide +kernel
theorem dX5_truthGoesOn_0 : decode cX5_truthGoesOn 0 = .ok (.iconst 0, 1) := by decide +kernel
theorem dX5_truthGoesOn_1 : decode cX5_truthGoesOn 1 = .ok (.istore_n 3, 1) := by decide +kernel
theorem dX5_truthGoesOn_2 : decode cX5_truthGoesOn 2 = .ok (.iload_n 3, 1) := by decide +kernel
theorem dX5_truthGoesOn_3 : decode cX5_truthGoesOn 3 = .ok (.sipush 240, 3) := by decide +kernel
theorem dX5_truthGoesOn_6 : decode cX5_truthGoesOn 6 = .ok (.if_icmp .ge 37, 3) := by decide +kernel
theorem dX5_truthGoesOn_9 : decode cX5_truthGoesOn 9 = .ok (.aload_n 1, 1) := by decide +kernel
theorem dX5_truthGoesOn_10 : decode cX5_truthGoesOn 10 = .ok (.bipush 38, 2) := by decide +kernel
theorem dX5_truthGoesOn_12 : decode cX5_truthGoesOn 12 = .ok (.invokevirtual 35, 3) := by decide +kernel
theorem dX5_truthGoesOn_15 : decode cX5_truthGoesOn 15 = .ok (.ifCond .ne 5, 3) := by decide +kernel
theorem dX5_truthGoesOn_18 : decode cX5_truthGoesOn 18 = .ok (.iconst 1, 1) := by decide +kernel
theorem dX5_truthGoesOn_19 : decode cX5_truthGoesOn 19 = .ok (.ireturn, 1) := by decide +kernel
theorem dX5_truthGoesOn_20 : decode cX5_truthGoesOn 20 = .ok (.aload_n 0, 1) := by decide +kernel
theorem dX5_truthGoesOn_21 : decode cX5_truthGoesOn 21 = .ok (.aload_n 1, 1) := by decide +kernel
theorem dX5_truthGoesOn_22 : decode cX5_truthGoesOn 22 = .ok (.iload_n 2, 1) := by decide +kernel
theorem dX5_truthGoesOn_23 : decode cX5_truthGoesOn 23 = .ok (.invokevirtual 68, 3) := by decide +kernel
theorem dX5_truthGoesOn_26 : decode cX5_truthGoesOn 26 = .ok (.ifCond .ne 5, 3) := by decide +kernel
theorem dX5_truthGoesOn_29 : decode cX5_truthGoesOn 29 = .ok (.iconst 0, 1) := by decide +kernel
theorem dX5_truthGoesOn_30 : decode cX5_truthGoesOn 30 = .ok (.ireturn, 1) := by decide +kernel
theorem dX5_truthGoesOn_31 : decode cX5_truthGoesOn 31 = .ok (.aload_n 0, 1) := by decide +kernel
theorem dX5_truthGoesOn_32 : decode cX5_truthGoesOn 32 = .ok (.bipush (-38), 2) := by decide +kernel
theorem dX5_truthGoesOn_34 : decode cX5_truthGoesOn 34 = .ok (.invokevirtual 52, 3) := by decide +kernel
theorem dX5_truthGoesOn_37 : decode cX5_truthGoesOn 37 = .ok (.iinc 3 1, 3) := by decide +kernel
theorem dX5_truthGoesOn_40 : decode cX5_truthGoesOn 40 = .ok (.goto (-38), 3) := by decide +kernel
theorem dX5_truthGoesOn_43 : decode cX5_truthGoesOn 43 = .ok (.iconst 0, 1) := by decide +kernel
theorem dX5_truthGoesOn_44 : decode cX5_truthGoesOn 44 = .ok (.ireturn, 1) := by decide +kernel
theorem dX5_unitReads_0 : decode cX5_unitReads 0 = .ok (.aload_n 1, 1) := by decide +kernel
theorem dX5_unitReads_1 : decode cX5_unitReads 1 = .ok (.invokevirtual 31, 3) := by decide +kernel
theorem dX5_unitReads_4 : decode cX5_unitReads 4 = .ok (.istore_n 3, 1) := by decide +kernel
theorem dX5_unitReads_5 : decode cX5_unitReads 5 = .ok (.iload_n 3, 1) := by decide +kernel
theorem dX5_unitReads_6 : decode cX5_unitReads 6 = .ok (.bipush 33, 2) := by decide +kernel
theorem dX5_unitReads_8 : decode cX5_unitReads 8 = .ok (.if_icmp .eq 33, 3) := by decide +kernel
theorem dX5_unitReads_11 : decode cX5_unitReads 11 = .ok (.iload_n 3, 1) := by decide +kernel
theorem dX5_unitReads_12 : decode cX5_unitReads 12 = .ok (.bipush 40, 2) := by decide +kernel
theorem dX5_unitReads_14 : decode cX5_unitReads 14 = .ok (.if_icmp .eq 27, 3) := by decide +kernel
theorem dX5_unitReads_17 : decode cX5_unitReads 17 = .ok (.aload_n 0, 1) := by decide +kernel
theorem dX5_unitReads_18 : decode cX5_unitReads 18 = .ok (.aload_n 1, 1) := by decide +kernel
theorem dX5_unitReads_19 : decode cX5_unitReads 19 = .ok (.iload_n 2, 1) := by decide +kernel
theorem dX5_unitReads_20 : decode cX5_unitReads 20 = .ok (.invokevirtual 46, 3) := by decide +kernel
theorem dX5_unitReads_23 : decode cX5_unitReads 23 = .ok (.ifCond .eq 16, 3) := by decide +kernel
theorem dX5_unitReads_26 : decode cX5_unitReads 26 = .ok (.aload_n 0, 1) := by decide +kernel
theorem dX5_unitReads_27 : decode cX5_unitReads 27 = .ok (.aload_n 1, 1) := by decide +kernel
theorem dX5_unitReads_28 : decode cX5_unitReads 28 = .ok (.iload_n 2, 1) := by decide +kernel
theorem dX5_unitReads_29 : decode cX5_unitReads 29 = .ok (.invokevirtual 56, 3) := by decide +kernel
theorem dX5_unitReads_32 : decode cX5_unitReads 32 = .ok (.ifCond .eq 7, 3) := by decide +kernel
theorem dX5_unitReads_35 : decode cX5_unitReads 35 = .ok (.iconst 1, 1) := by decide +kernel
theorem dX5_unitReads_36 : decode cX5_unitReads 36 = .ok (.goto 4, 3) := by decide +kernel
theorem dX5_unitReads_39 : decode cX5_unitReads 39 = .ok (.iconst 0, 1) := by decide +kernel
theorem dX5_unitReads_40 : decode cX5_unitReads 40 = .ok (.ireturn, 1) := by decide +kernel
theorem dX5_unitReads_41 : decode cX5_unitReads 41 = .ok (.iload_n 2, 1) := by decide +kernel
theorem dX5_unitReads_42 : decode cX5_unitReads 42 = .ok (.bipush 6, 2) := by decide +kernel
theorem dX5_unitReads_44 : decode cX5_unitReads 44 = .ok (.if_icmp .lt 5, 3) := by decide +kernel
theorem dX5_unitReads_47 : decode cX5_unitReads 47 = .ok (.iconst 0, 1) := by decide +kernel
theorem dX5_unitReads_48 : decode cX5_unitReads 48 = .ok (.ireturn, 1) := by decide +kernel
theorem dX5_unitReads_49 : decode cX5_unitReads 49 = .ok (.aload_n 1, 1) := by decide +kernel
theorem dX5_unitReads_50 : decode cX5_unitReads 50 = .ok (.dup, 1) := by decide +kernel
theorem dX5_unitReads_51 : decode cX5_unitReads 51 = .ok (.getfield 22, 3) := by decide +kernel
theorem dX5_unitReads_54 : decode cX5_unitReads 54 = .ok (.iconst 1, 1) := by decide +kernel
theorem dX5_unitReads_55 : decode cX5_unitReads 55 = .ok (.iadd, 1) := by decide +kernel
theorem dX5_unitReads_56 : decode cX5_unitReads 56 = .ok (.putfield 22, 3) := by decide +kernel
theorem dX5_unitReads_59 : decode cX5_unitReads 59 = .ok (.iload_n 3, 1) := by decide +kernel
theorem dX5_unitReads_60 : decode cX5_unitReads 60 = .ok (.bipush 40, 2) := by decide +kernel
theorem dX5_unitReads_62 : decode cX5_unitReads 62 = .ok (.if_icmp .ne 29, 3) := by decide +kernel
theorem dX5_unitReads_65 : decode cX5_unitReads 65 = .ok (.aload_n 0, 1) := by decide +kernel
theorem dX5_unitReads_66 : decode cX5_unitReads 66 = .ok (.aload_n 1, 1) := by decide +kernel
theorem dX5_unitReads_67 : decode cX5_unitReads 67 = .ok (.iload_n 2, 1) := by decide +kernel
theorem dX5_unitReads_68 : decode cX5_unitReads 68 = .ok (.iconst 1, 1) := by decide +kernel
theorem dX5_unitReads_69 : decode cX5_unitReads 69 = .ok (.iadd, 1) := by decide +kernel
theorem dX5_unitReads_70 : decode cX5_unitReads 70 = .ok (.invokevirtual 39, 3) := by decide +kernel
theorem dX5_unitReads_73 : decode cX5_unitReads 73 = .ok (.ifCond .eq 16, 3) := by decide +kernel
theorem dX5_unitReads_76 : decode cX5_unitReads 76 = .ok (.aload_n 1, 1) := by decide +kernel
theorem dX5_unitReads_77 : decode cX5_unitReads 77 = .ok (.bipush 41, 2) := by decide +kernel
theorem dX5_unitReads_79 : decode cX5_unitReads 79 = .ok (.invokevirtual 35, 3) := by decide +kernel
theorem dX5_unitReads_82 : decode cX5_unitReads 82 = .ok (.ifCond .eq 7, 3) := by decide +kernel
theorem dX5_unitReads_85 : decode cX5_unitReads 85 = .ok (.iconst 1, 1) := by decide +kernel
theorem dX5_unitReads_86 : decode cX5_unitReads 86 = .ok (.goto 4, 3) := by decide +kernel
theorem dX5_unitReads_89 : decode cX5_unitReads 89 = .ok (.iconst 0, 1) := by decide +kernel
theorem dX5_unitReads_90 : decode cX5_unitReads 90 = .ok (.ireturn, 1) := by decide +kernel
theorem dX5_unitReads_91 : decode cX5_unitReads 91 = .ok (.aload_n 0, 1) := by decide +kernel
theorem dX5_unitReads_92 : decode cX5_unitReads 92 = .ok (.aload_n 1, 1) := by decide +kernel
theorem dX5_unitReads_93 : decode cX5_unitReads 93 = .ok (.iload_n 2, 1) := by decide +kernel
theorem dX5_unitReads_94 : decode cX5_unitReads 94 = .ok (.iconst 1, 1) := by decide +kernel
theorem dX5_unitReads_95 : decode cX5_unitReads 95 = .ok (.iadd, 1) := by decide +kernel
theorem dX5_unitReads_96 : decode cX5_unitReads 96 = .ok (.invokevirtual 68, 3) := by decide +kernel
theorem dX5_unitReads_99 : decode cX5_unitReads 99 = .ok (.ifCond .ne 5, 3) := by decide +kernel
theorem dX5_unitReads_102 : decode cX5_unitReads 102 = .ok (.iconst 0, 1) := by decide +kernel
theorem dX5_unitReads_103 : decode cX5_unitReads 103 = .ok (.ireturn, 1) := by decide +kernel
theorem dX5_unitReads_104 : decode cX5_unitReads 104 = .ok (.aload_n 0, 1) := by decide +kernel
theorem dX5_unitReads_105 : decode cX5_unitReads 105 = .ok (.bipush (-33), 2) := by decide +kernel
theorem dX5_unitReads_107 : decode cX5_unitReads 107 = .ok (.invokevirtual 52, 3) := by decide +kernel
theorem dX5_unitReads_110 : decode cX5_unitReads 110 = .ok (.iconst 1, 1) := by decide +kernel
theorem dX5_unitReads_111 : decode cX5_unitReads 111 = .ok (.ireturn, 1) := by decide +kernel
def f_Law_conditionReads (rc : Nat → Mem → Nat → Int32 → Option (Int32 × Mem)) (σ : Mem) (x0 : Nat) (x2 : Int32) : Option (Int32 × Mem) :=
  (rc 2 σ x0 x2).bind fun q1 =>
  if q1.1 = (0 : Int32) then
    some ((0 : Int32), q1.2)
  else
    (rc 1 q1.2 x0 x2).bind fun q3 =>
    if q3.1 = (0 : Int32) then
      some ((0 : Int32), q3.2)
    else
      some ((1 : Int32), q3.2)
set_option maxHeartbeats 4000000 in
set_option maxRecDepth 20000 in
theorem g_Law_conditionReads (X : Cx θ p s m args c cX5_conditionReads 3 RX5) (hr : meth.sig.returnType = some .boolean) (hlk : meth.locks = false) {rc : Nat → Mem → Nat → Int32 → Option (Int32 × Mem)} {nr : Nat} (hrec0 : ∀ {σ : Mem} {x0 : Nat} {x2 : Int32} {r : Int32 × Mem}, kd x0 = 6 → rc 0 σ x0 x2 = some r → Cn θ l yX5_conditionReads cX5_conditionReads 3 (some .boolean) (26 + nr) 0 0 [.ref (be θ + x0), .ref (be θ + 1), .int x2] σ (some (.int r.1), r.2)) (hrec1 : ∀ {σ : Mem} {x0 : Nat} {x2 : Int32} {r : Int32 × Mem}, kd x0 = 6 → rc 1 σ x0 x2 = some r → Cn θ l yX5_conditionGoesOn cX5_conditionGoesOn 4 (some .boolean) (26 + nr) 0 0 [.ref (be θ + x0), .ref (be θ + 1), .int x2] σ (some (.int r.1), r.2)) (hrec2 : ∀ {σ : Mem} {x0 : Nat} {x2 : Int32} {r : Int32 × Mem}, kd x0 = 6 → rc 2 σ x0 x2 = some r → Cn θ l yX5_truthReads cX5_truthReads 3 (some .boolean) (26 + nr) 0 0 [.ref (be θ + x0), .ref (be θ + 1), .int x2] σ (some (.int r.1), r.2)) (hrec3 : ∀ {σ : Mem} {x0 : Nat} {x2 : Int32} {r : Int32 × Mem}, kd x0 = 6 → rc 3 σ x0 x2 = some r → Cn θ l yX5_truthGoesOn cX5_truthGoesOn 4 (some .boolean) (26 + nr) 0 0 [.ref (be θ + x0), .ref (be θ + 1), .int x2] σ (some (.int r.1), r.2)) (hrec4 : ∀ {σ : Mem} {x0 : Nat} {x2 : Int32} {r : Int32 × Mem}, kd x0 = 6 → rc 4 σ x0 x2 = some r → Cn θ l yX5_unitReads cX5_unitReads 4 (some .boolean) (26 + nr) 0 0 [.ref (be θ + x0), .ref (be θ + 1), .int x2] σ (some (.int r.1), r.2))  {σ : Mem} {x0 : Nat} {x2 : Int32} {r : Int32 × Mem} (h0 : kd x0 = 6) (h : f_Law_conditionReads rc σ x0 x2 = some r) : GB θ p l e (26 + nr + 1) s m args below meth c 3 (some (.int r.1), r.2) 0 [(0, .ref (be θ + x0)), (1, .ref (be θ + 1)), (2, .int x2)] [] σ := by
  unfold f_Law_conditionReads at h
  refine g_aload_n X dX5_conditionReads_0 rfl 0 rfl ?_
  refine g_aload_n X dX5_conditionReads_1 rfl 1 rfl ?_
  refine g_iload_n X dX5_conditionReads_2 rfl 2 rfl ?_
  obtain ⟨q1, hq1, h⟩ := Option.bind_eq_some_iff.mp h
  refine g_cV X (hrec2 h0 hq1) lk_RX5_65 my_X5_truthReads (a := x0) (ci := 5) h0 (by decide) rfl (As := [.ref (be θ + 1), .int x2]) (rest := []) rfl rfl (Nat.le_of_ble_eq_true rfl) ⟨Nat.le_refl _, (by show 8 + (3 + 11) + 40 * (26 + nr) ≤ 40 * (26 + nr + 1); omega)⟩ ⟨(Nat.le_of_ble_eq_true rfl), (Nat.le_of_ble_eq_true rfl)⟩ dX5_conditionReads_3 (st' := [.int q1.1]) (σ' := q1.2) rfl rfl ?_
  refine g_if_eq (tgt := 22) X dX5_conditionReads_6 (by decide) (fun c2 => ?_) (fun c2 => ?_)
  · replace h := (if_pos c2).symm.trans h
    refine g_iconst X dX5_conditionReads_22 (v := (0 : Int32)) ic_0 ?_
    exact g_zret X hr hlk bz0 dX5_conditionReads_23 (by cases h; rfl)
  · replace h := (if_neg c2).symm.trans h
    refine g_aload_n X dX5_conditionReads_9 rfl 0 rfl ?_
    refine g_aload_n X dX5_conditionReads_10 rfl 1 rfl ?_
    refine g_iload_n X dX5_conditionReads_11 rfl 2 rfl ?_
    obtain ⟨q3, hq3, h⟩ := Option.bind_eq_some_iff.mp h
    refine g_cV X (hrec1 h0 hq3) lk_RX5_62 my_X5_conditionGoesOn (a := x0) (ci := 5) h0 (by decide) rfl (As := [.ref (be θ + 1), .int x2]) (rest := []) rfl rfl (Nat.le_of_ble_eq_true rfl) ⟨Nat.le_refl _, (by show 8 + (4 + 11) + 40 * (26 + nr) ≤ 40 * (26 + nr + 1); omega)⟩ ⟨(Nat.le_of_ble_eq_true rfl), (Nat.le_of_ble_eq_true rfl)⟩ dX5_conditionReads_12 (st' := [.int q3.1]) (σ' := q3.2) rfl rfl ?_
    refine g_if_eq (tgt := 22) X dX5_conditionReads_15 (by decide) (fun c4 => ?_) (fun c4 => ?_)
    · replace h := (if_pos c4).symm.trans h
      refine g_iconst X dX5_conditionReads_22 (v := (0 : Int32)) ic_0 ?_
      exact g_zret X hr hlk bz0 dX5_conditionReads_23 (by cases h; rfl)
    · replace h := (if_neg c4).symm.trans h
      refine g_iconst X dX5_conditionReads_18 (v := (1 : Int32)) ic_1 ?_
      refine g_goto (tgt := 23) X dX5_conditionReads_19 (by decide) ?_
      exact g_zret X hr hlk bz1 dX5_conditionReads_23 (by cases h; rfl)
def f_Law_conditionGoesOn_L2 (rc : Nat → Mem → Nat → Int32 → Option (Int32 × Mem)) (x0 : Nat) (x2 : Int32) (a : Mem × Int32) : Option ((Mem × Int32) ⊕ (Int32 × Mem)) :=
  @Prod.casesOn (Mem) (Int32) (fun _ => Option ((Mem × Int32) ⊕ (Int32 × Mem))) a fun τ z3 =>
  if (240 : Int32) ≤ z3 then
    some (.inr ((0 : Int32), τ))
  else
    (f_Tape_passes τ (124 : Int32)).bind fun q2 =>
    if q2.1 = (0 : Int32) then
      some (.inr ((1 : Int32), q2.2))
    else
      (rc 2 q2.2 x0 x2).bind fun q4 =>
      if q4.1 = (0 : Int32) then
        some (.inr ((0 : Int32), q4.2))
      else
        (f_Law_put q4.2 x0 (-124 : Int32)).bind fun q6 =>
        some (.inl (q6, (z3 + (1 : Int32))))
def f_Law_conditionGoesOn (rc : Nat → Mem → Nat → Int32 → Option (Int32 × Mem)) (σ : Mem) (x0 : Nat) (x2 : Int32) : Option (Int32 × Mem) :=
  loopF (f_Law_conditionGoesOn_L2 rc x0 x2) FU (σ, (0 : Int32))
set_option maxHeartbeats 4000000 in
set_option maxRecDepth 20000 in
theorem gs_Law_conditionGoesOn_L2 (X : Cx θ p s m args c cX5_conditionGoesOn 4 RX5) (hr : meth.sig.returnType = some .boolean) (hlk : meth.locks = false) {rc : Nat → Mem → Nat → Int32 → Option (Int32 × Mem)} {nr : Nat} (hrec0 : ∀ {σ : Mem} {x0 : Nat} {x2 : Int32} {r : Int32 × Mem}, kd x0 = 6 → rc 0 σ x0 x2 = some r → Cn θ l yX5_conditionReads cX5_conditionReads 3 (some .boolean) (26 + nr) 0 0 [.ref (be θ + x0), .ref (be θ + 1), .int x2] σ (some (.int r.1), r.2)) (hrec1 : ∀ {σ : Mem} {x0 : Nat} {x2 : Int32} {r : Int32 × Mem}, kd x0 = 6 → rc 1 σ x0 x2 = some r → Cn θ l yX5_conditionGoesOn cX5_conditionGoesOn 4 (some .boolean) (26 + nr) 0 0 [.ref (be θ + x0), .ref (be θ + 1), .int x2] σ (some (.int r.1), r.2)) (hrec2 : ∀ {σ : Mem} {x0 : Nat} {x2 : Int32} {r : Int32 × Mem}, kd x0 = 6 → rc 2 σ x0 x2 = some r → Cn θ l yX5_truthReads cX5_truthReads 3 (some .boolean) (26 + nr) 0 0 [.ref (be θ + x0), .ref (be θ + 1), .int x2] σ (some (.int r.1), r.2)) (hrec3 : ∀ {σ : Mem} {x0 : Nat} {x2 : Int32} {r : Int32 × Mem}, kd x0 = 6 → rc 3 σ x0 x2 = some r → Cn θ l yX5_truthGoesOn cX5_truthGoesOn 4 (some .boolean) (26 + nr) 0 0 [.ref (be θ + x0), .ref (be θ + 1), .int x2] σ (some (.int r.1), r.2)) (hrec4 : ∀ {σ : Mem} {x0 : Nat} {x2 : Int32} {r : Int32 × Mem}, kd x0 = 6 → rc 4 σ x0 x2 = some r → Cn θ l yX5_unitReads cX5_unitReads 4 (some .boolean) (26 + nr) 0 0 [.ref (be θ + x0), .ref (be θ + 1), .int x2] σ (some (.int r.1), r.2))  {x0 : Nat} {x2 : Int32} {r : Int32 × Mem} (h0 : kd x0 = 6) (τ : Mem) (z3 : Int32) (x : (Mem × Int32) ⊕ (Int32 × Mem)) (h : f_Law_conditionGoesOn_L2 rc x0 x2 (τ, z3) = some x) (hk : Sum.elim (fun a => @Prod.casesOn (Mem) (Int32) (fun _ => Prop) a fun τ z3 => GB θ p l e (26 + nr + 1) s m args below meth c 4 (some (.int r.1), r.2) 2 [(0, .ref (be θ + x0)), (1, .ref (be θ + 1)), (2, .int x2), (3, .int z3)] [] τ) (fun b => b = r) x) : GB θ p l e (26 + nr + 1) s m args below meth c 4 (some (.int r.1), r.2) 2 [(0, .ref (be θ + x0)), (1, .ref (be θ + 1)), (2, .int x2), (3, .int z3)] [] τ := by
  unfold f_Law_conditionGoesOn_L2 at h
  dsimp only at h
  refine g_iload_n X dX5_conditionGoesOn_2 rfl 3 rfl ?_
  refine g_sipush X dX5_conditionGoesOn_3 (v := (240 : Int32)) sp_240 ?_
  refine g_icmp_ge (tgt := 43) X dX5_conditionGoesOn_6 (by decide) (fun c1 => ?_) (fun c1 => ?_)
  · replace h := (if_pos c1).symm.trans h
    refine g_iconst X dX5_conditionGoesOn_43 (v := (0 : Int32)) ic_0 ?_
    have hk := inr_hk h hk
    have hk : ((0 : Int32), τ) = r := hk
    subst hk
    exact g_zret X hr hlk bz0 dX5_conditionGoesOn_44 rfl
  · replace h := (if_neg c1).symm.trans h
    refine g_aload_n X dX5_conditionGoesOn_9 rfl 1 rfl ?_
    refine g_bipush X dX5_conditionGoesOn_10 (v := (124 : Int32)) bp_124 ?_
    obtain ⟨q2, hq2, h⟩ := Option.bind_eq_some_iff.mp h
    refine g_cV X (c_Tape_passes  hq2) lk_RX5_35 my_X8_passes (a := 1) (ci := 8) kd_1 (by decide) rfl (As := [.int (124 : Int32)]) (rest := []) rfl rfl (Nat.le_of_ble_eq_true rfl) ⟨(by show 1 + 1 ≤ 26 + nr + 1; omega), (by show 8 + (2 + 11) + 40 * 1 ≤ 40 * (26 + nr + 1); omega)⟩ ⟨(Nat.le_of_ble_eq_true rfl), (Nat.le_of_ble_eq_true rfl)⟩ dX5_conditionGoesOn_12 (st' := [.int q2.1]) (σ' := q2.2) rfl rfl ?_
    refine g_if_ne (tgt := 20) X dX5_conditionGoesOn_15 (by decide) (fun c3 => ?_) (fun c3 => ?_)
    · replace h := (if_neg c3).symm.trans h
      refine g_aload_n X dX5_conditionGoesOn_20 rfl 0 rfl ?_
      refine g_aload_n X dX5_conditionGoesOn_21 rfl 1 rfl ?_
      refine g_iload_n X dX5_conditionGoesOn_22 rfl 2 rfl ?_
      obtain ⟨q4, hq4, h⟩ := Option.bind_eq_some_iff.mp h
      refine g_cV X (hrec2 h0 hq4) lk_RX5_65 my_X5_truthReads (a := x0) (ci := 5) h0 (by decide) rfl (As := [.ref (be θ + 1), .int x2]) (rest := []) rfl rfl (Nat.le_of_ble_eq_true rfl) ⟨Nat.le_refl _, (by show 8 + (3 + 11) + 40 * (26 + nr) ≤ 40 * (26 + nr + 1); omega)⟩ ⟨(Nat.le_of_ble_eq_true rfl), (Nat.le_of_ble_eq_true rfl)⟩ dX5_conditionGoesOn_23 (st' := [.int q4.1]) (σ' := q4.2) rfl rfl ?_
      refine g_if_ne (tgt := 31) X dX5_conditionGoesOn_26 (by decide) (fun c5 => ?_) (fun c5 => ?_)
      · replace h := (if_neg c5).symm.trans h
        refine g_aload_n X dX5_conditionGoesOn_31 rfl 0 rfl ?_
        refine g_bipush X dX5_conditionGoesOn_32 (v := (-124 : Int32)) bp_m124 ?_
        obtain ⟨q6, hq6, h⟩ := Option.bind_eq_some_iff.mp h
        refine g_cV X (c_Law_put h0 hq6) lk_RX5_52 my_X5_put (a := x0) (ci := 5) h0 (by decide) rfl (As := [.int (-124 : Int32)]) (rest := []) rfl rfl (Nat.le_of_ble_eq_true rfl) ⟨(by show 0 + 1 ≤ 26 + nr + 1; omega), (by show 8 + (2 + 11) + 40 * 0 ≤ 40 * (26 + nr + 1); omega)⟩ ⟨(Nat.le_of_ble_eq_true rfl), (Nat.le_of_ble_eq_true rfl)⟩ dX5_conditionGoesOn_34 (st' := []) (σ' := q6) rfl rfl ?_
        refine g_iinc X dX5_conditionGoesOn_37 (kq := 3) rfl (congrArg (HAdd.hAdd _) ic_1) (by decide) (lv' := [(3, .int (z3 + (1 : Int32))), (0, .ref (be θ + x0)), (1, .ref (be θ + 1)), (2, .int x2)]) rfl ?_
        refine g_goto (tgt := 2) X dX5_conditionGoesOn_40 (by decide) ?_
        have hk := inl_hk h hk
        exact g_sub (lv' := [(0, .ref (be θ + x0)), (1, .ref (be θ + 1)), (2, .int x2), (3, .int (z3 + (1 : Int32)))]) [1, 2, 3, 0] rfl hk
      · replace h := (if_pos c5).symm.trans h
        refine g_iconst X dX5_conditionGoesOn_29 (v := (0 : Int32)) ic_0 ?_
        have hk := inr_hk h hk
        have hk : ((0 : Int32), q4.2) = r := hk
        subst hk
        exact g_zret X hr hlk bz0 dX5_conditionGoesOn_30 rfl
    · replace h := (if_pos c3).symm.trans h
      refine g_iconst X dX5_conditionGoesOn_18 (v := (1 : Int32)) ic_1 ?_
      have hk := inr_hk h hk
      have hk : ((1 : Int32), q2.2) = r := hk
      subst hk
      exact g_zret X hr hlk bz1 dX5_conditionGoesOn_19 rfl
set_option maxHeartbeats 4000000 in
set_option maxRecDepth 20000 in
theorem gl_Law_conditionGoesOn_L2 (X : Cx θ p s m args c cX5_conditionGoesOn 4 RX5) (hr : meth.sig.returnType = some .boolean) (hlk : meth.locks = false) {rc : Nat → Mem → Nat → Int32 → Option (Int32 × Mem)} {nr : Nat} (hrec0 : ∀ {σ : Mem} {x0 : Nat} {x2 : Int32} {r : Int32 × Mem}, kd x0 = 6 → rc 0 σ x0 x2 = some r → Cn θ l yX5_conditionReads cX5_conditionReads 3 (some .boolean) (26 + nr) 0 0 [.ref (be θ + x0), .ref (be θ + 1), .int x2] σ (some (.int r.1), r.2)) (hrec1 : ∀ {σ : Mem} {x0 : Nat} {x2 : Int32} {r : Int32 × Mem}, kd x0 = 6 → rc 1 σ x0 x2 = some r → Cn θ l yX5_conditionGoesOn cX5_conditionGoesOn 4 (some .boolean) (26 + nr) 0 0 [.ref (be θ + x0), .ref (be θ + 1), .int x2] σ (some (.int r.1), r.2)) (hrec2 : ∀ {σ : Mem} {x0 : Nat} {x2 : Int32} {r : Int32 × Mem}, kd x0 = 6 → rc 2 σ x0 x2 = some r → Cn θ l yX5_truthReads cX5_truthReads 3 (some .boolean) (26 + nr) 0 0 [.ref (be θ + x0), .ref (be θ + 1), .int x2] σ (some (.int r.1), r.2)) (hrec3 : ∀ {σ : Mem} {x0 : Nat} {x2 : Int32} {r : Int32 × Mem}, kd x0 = 6 → rc 3 σ x0 x2 = some r → Cn θ l yX5_truthGoesOn cX5_truthGoesOn 4 (some .boolean) (26 + nr) 0 0 [.ref (be θ + x0), .ref (be θ + 1), .int x2] σ (some (.int r.1), r.2)) (hrec4 : ∀ {σ : Mem} {x0 : Nat} {x2 : Int32} {r : Int32 × Mem}, kd x0 = 6 → rc 4 σ x0 x2 = some r → Cn θ l yX5_unitReads cX5_unitReads 4 (some .boolean) (26 + nr) 0 0 [.ref (be θ + x0), .ref (be θ + 1), .int x2] σ (some (.int r.1), r.2))  {x0 : Nat} {x2 : Int32} {r : Int32 × Mem} (h0 : kd x0 = 6) (n : Nat) (a : Mem × Int32) (b : Int32 × Mem) (h : loopF (f_Law_conditionGoesOn_L2 rc x0 x2) n a = some b) (hk : (fun b => b = r) b) : (fun a => @Prod.casesOn (Mem) (Int32) (fun _ => Prop) a fun τ z3 => GB θ p l e (26 + nr + 1) s m args below meth c 4 (some (.int r.1), r.2) 2 [(0, .ref (be θ + x0)), (1, .ref (be θ + 1)), (2, .int x2), (3, .int z3)] [] τ) a :=
  loopF_by (P := (fun a => @Prod.casesOn (Mem) (Int32) (fun _ => Prop) a fun τ z3 => GB θ p l e (26 + nr + 1) s m args below meth c 4 (some (.int r.1), r.2) 2 [(0, .ref (be θ + x0)), (1, .ref (be θ + 1)), (2, .int x2), (3, .int z3)] [] τ)) (K := (fun b => b = r)) (fun a x h hk => by obtain ⟨τ, z3⟩ := a; exact gs_Law_conditionGoesOn_L2 X hr hlk hrec0 hrec1 hrec2 hrec3 hrec4 h0 τ z3 x h hk) n a b h hk
set_option maxHeartbeats 4000000 in
set_option maxRecDepth 20000 in
theorem g_Law_conditionGoesOn (X : Cx θ p s m args c cX5_conditionGoesOn 4 RX5) (hr : meth.sig.returnType = some .boolean) (hlk : meth.locks = false) {rc : Nat → Mem → Nat → Int32 → Option (Int32 × Mem)} {nr : Nat} (hrec0 : ∀ {σ : Mem} {x0 : Nat} {x2 : Int32} {r : Int32 × Mem}, kd x0 = 6 → rc 0 σ x0 x2 = some r → Cn θ l yX5_conditionReads cX5_conditionReads 3 (some .boolean) (26 + nr) 0 0 [.ref (be θ + x0), .ref (be θ + 1), .int x2] σ (some (.int r.1), r.2)) (hrec1 : ∀ {σ : Mem} {x0 : Nat} {x2 : Int32} {r : Int32 × Mem}, kd x0 = 6 → rc 1 σ x0 x2 = some r → Cn θ l yX5_conditionGoesOn cX5_conditionGoesOn 4 (some .boolean) (26 + nr) 0 0 [.ref (be θ + x0), .ref (be θ + 1), .int x2] σ (some (.int r.1), r.2)) (hrec2 : ∀ {σ : Mem} {x0 : Nat} {x2 : Int32} {r : Int32 × Mem}, kd x0 = 6 → rc 2 σ x0 x2 = some r → Cn θ l yX5_truthReads cX5_truthReads 3 (some .boolean) (26 + nr) 0 0 [.ref (be θ + x0), .ref (be θ + 1), .int x2] σ (some (.int r.1), r.2)) (hrec3 : ∀ {σ : Mem} {x0 : Nat} {x2 : Int32} {r : Int32 × Mem}, kd x0 = 6 → rc 3 σ x0 x2 = some r → Cn θ l yX5_truthGoesOn cX5_truthGoesOn 4 (some .boolean) (26 + nr) 0 0 [.ref (be θ + x0), .ref (be θ + 1), .int x2] σ (some (.int r.1), r.2)) (hrec4 : ∀ {σ : Mem} {x0 : Nat} {x2 : Int32} {r : Int32 × Mem}, kd x0 = 6 → rc 4 σ x0 x2 = some r → Cn θ l yX5_unitReads cX5_unitReads 4 (some .boolean) (26 + nr) 0 0 [.ref (be θ + x0), .ref (be θ + 1), .int x2] σ (some (.int r.1), r.2))  {σ : Mem} {x0 : Nat} {x2 : Int32} {r : Int32 × Mem} (h0 : kd x0 = 6) (h : f_Law_conditionGoesOn rc σ x0 x2 = some r) : GB θ p l e (26 + nr + 1) s m args below meth c 4 (some (.int r.1), r.2) 0 [(0, .ref (be θ + x0)), (1, .ref (be θ + 1)), (2, .int x2)] [] σ := by
  unfold f_Law_conditionGoesOn at h
  refine g_iconst X dX5_conditionGoesOn_0 (v := (0 : Int32)) ic_0 ?_
  refine g_istore_n X dX5_conditionGoesOn_1 rfl (by decide) (lv' := [(3, .int (0 : Int32)), (0, .ref (be θ + x0)), (1, .ref (be θ + 1)), (2, .int x2)]) rfl ?_
  exact g_sub (lv' := [(0, .ref (be θ + x0)), (1, .ref (be θ + 1)), (2, .int x2), (3, .int (0 : Int32))]) [1, 2, 3, 0] rfl (gl_Law_conditionGoesOn_L2 X hr hlk hrec0 hrec1 hrec2 hrec3 hrec4 h0  FU _ _ h rfl)
def f_Law_truthReads (rc : Nat → Mem → Nat → Int32 → Option (Int32 × Mem)) (σ : Mem) (x0 : Nat) (x2 : Int32) : Option (Int32 × Mem) :=
  (rc 4 σ x0 x2).bind fun q1 =>
  if q1.1 = (0 : Int32) then
    some ((0 : Int32), q1.2)
  else
    (rc 3 q1.2 x0 x2).bind fun q3 =>
    if q3.1 = (0 : Int32) then
      some ((0 : Int32), q3.2)
    else
      some ((1 : Int32), q3.2)
set_option maxHeartbeats 4000000 in
set_option maxRecDepth 20000 in
theorem g_Law_truthReads (X : Cx θ p s m args c cX5_truthReads 3 RX5) (hr : meth.sig.returnType = some .boolean) (hlk : meth.locks = false) {rc : Nat → Mem → Nat → Int32 → Option (Int32 × Mem)} {nr : Nat} (hrec0 : ∀ {σ : Mem} {x0 : Nat} {x2 : Int32} {r : Int32 × Mem}, kd x0 = 6 → rc 0 σ x0 x2 = some r → Cn θ l yX5_conditionReads cX5_conditionReads 3 (some .boolean) (26 + nr) 0 0 [.ref (be θ + x0), .ref (be θ + 1), .int x2] σ (some (.int r.1), r.2)) (hrec1 : ∀ {σ : Mem} {x0 : Nat} {x2 : Int32} {r : Int32 × Mem}, kd x0 = 6 → rc 1 σ x0 x2 = some r → Cn θ l yX5_conditionGoesOn cX5_conditionGoesOn 4 (some .boolean) (26 + nr) 0 0 [.ref (be θ + x0), .ref (be θ + 1), .int x2] σ (some (.int r.1), r.2)) (hrec2 : ∀ {σ : Mem} {x0 : Nat} {x2 : Int32} {r : Int32 × Mem}, kd x0 = 6 → rc 2 σ x0 x2 = some r → Cn θ l yX5_truthReads cX5_truthReads 3 (some .boolean) (26 + nr) 0 0 [.ref (be θ + x0), .ref (be θ + 1), .int x2] σ (some (.int r.1), r.2)) (hrec3 : ∀ {σ : Mem} {x0 : Nat} {x2 : Int32} {r : Int32 × Mem}, kd x0 = 6 → rc 3 σ x0 x2 = some r → Cn θ l yX5_truthGoesOn cX5_truthGoesOn 4 (some .boolean) (26 + nr) 0 0 [.ref (be θ + x0), .ref (be θ + 1), .int x2] σ (some (.int r.1), r.2)) (hrec4 : ∀ {σ : Mem} {x0 : Nat} {x2 : Int32} {r : Int32 × Mem}, kd x0 = 6 → rc 4 σ x0 x2 = some r → Cn θ l yX5_unitReads cX5_unitReads 4 (some .boolean) (26 + nr) 0 0 [.ref (be θ + x0), .ref (be θ + 1), .int x2] σ (some (.int r.1), r.2))  {σ : Mem} {x0 : Nat} {x2 : Int32} {r : Int32 × Mem} (h0 : kd x0 = 6) (h : f_Law_truthReads rc σ x0 x2 = some r) : GB θ p l e (26 + nr + 1) s m args below meth c 3 (some (.int r.1), r.2) 0 [(0, .ref (be θ + x0)), (1, .ref (be θ + 1)), (2, .int x2)] [] σ := by
  unfold f_Law_truthReads at h
  refine g_aload_n X dX5_truthReads_0 rfl 0 rfl ?_
  refine g_aload_n X dX5_truthReads_1 rfl 1 rfl ?_
  refine g_iload_n X dX5_truthReads_2 rfl 2 rfl ?_
  obtain ⟨q1, hq1, h⟩ := Option.bind_eq_some_iff.mp h
  refine g_cV X (hrec4 h0 hq1) lk_RX5_68 my_X5_unitReads (a := x0) (ci := 5) h0 (by decide) rfl (As := [.ref (be θ + 1), .int x2]) (rest := []) rfl rfl (Nat.le_of_ble_eq_true rfl) ⟨Nat.le_refl _, (by show 8 + (4 + 11) + 40 * (26 + nr) ≤ 40 * (26 + nr + 1); omega)⟩ ⟨(Nat.le_of_ble_eq_true rfl), (Nat.le_of_ble_eq_true rfl)⟩ dX5_truthReads_3 (st' := [.int q1.1]) (σ' := q1.2) rfl rfl ?_
  refine g_if_eq (tgt := 22) X dX5_truthReads_6 (by decide) (fun c2 => ?_) (fun c2 => ?_)
  · replace h := (if_pos c2).symm.trans h
    refine g_iconst X dX5_truthReads_22 (v := (0 : Int32)) ic_0 ?_
    exact g_zret X hr hlk bz0 dX5_truthReads_23 (by cases h; rfl)
  · replace h := (if_neg c2).symm.trans h
    refine g_aload_n X dX5_truthReads_9 rfl 0 rfl ?_
    refine g_aload_n X dX5_truthReads_10 rfl 1 rfl ?_
    refine g_iload_n X dX5_truthReads_11 rfl 2 rfl ?_
    obtain ⟨q3, hq3, h⟩ := Option.bind_eq_some_iff.mp h
    refine g_cV X (hrec3 h0 hq3) lk_RX5_59 my_X5_truthGoesOn (a := x0) (ci := 5) h0 (by decide) rfl (As := [.ref (be θ + 1), .int x2]) (rest := []) rfl rfl (Nat.le_of_ble_eq_true rfl) ⟨Nat.le_refl _, (by show 8 + (4 + 11) + 40 * (26 + nr) ≤ 40 * (26 + nr + 1); omega)⟩ ⟨(Nat.le_of_ble_eq_true rfl), (Nat.le_of_ble_eq_true rfl)⟩ dX5_truthReads_12 (st' := [.int q3.1]) (σ' := q3.2) rfl rfl ?_
    refine g_if_eq (tgt := 22) X dX5_truthReads_15 (by decide) (fun c4 => ?_) (fun c4 => ?_)
    · replace h := (if_pos c4).symm.trans h
      refine g_iconst X dX5_truthReads_22 (v := (0 : Int32)) ic_0 ?_
      exact g_zret X hr hlk bz0 dX5_truthReads_23 (by cases h; rfl)
    · replace h := (if_neg c4).symm.trans h
      refine g_iconst X dX5_truthReads_18 (v := (1 : Int32)) ic_1 ?_
      refine g_goto (tgt := 23) X dX5_truthReads_19 (by decide) ?_
      exact g_zret X hr hlk bz1 dX5_truthReads_23 (by cases h; rfl)
def f_Law_truthGoesOn_L2 (rc : Nat → Mem → Nat → Int32 → Option (Int32 × Mem)) (x0 : Nat) (x2 : Int32) (a : Mem × Int32) : Option ((Mem × Int32) ⊕ (Int32 × Mem)) :=
  @Prod.casesOn (Mem) (Int32) (fun _ => Option ((Mem × Int32) ⊕ (Int32 × Mem))) a fun τ z3 =>
  if (240 : Int32) ≤ z3 then
    some (.inr ((0 : Int32), τ))
  else
    (f_Tape_passes τ (38 : Int32)).bind fun q2 =>
    if q2.1 = (0 : Int32) then
      some (.inr ((1 : Int32), q2.2))
    else
      (rc 4 q2.2 x0 x2).bind fun q4 =>
      if q4.1 = (0 : Int32) then
        some (.inr ((0 : Int32), q4.2))
      else
        (f_Law_put q4.2 x0 (-38 : Int32)).bind fun q6 =>
        some (.inl (q6, (z3 + (1 : Int32))))
def f_Law_truthGoesOn (rc : Nat → Mem → Nat → Int32 → Option (Int32 × Mem)) (σ : Mem) (x0 : Nat) (x2 : Int32) : Option (Int32 × Mem) :=
  loopF (f_Law_truthGoesOn_L2 rc x0 x2) FU (σ, (0 : Int32))
set_option maxHeartbeats 4000000 in
set_option maxRecDepth 20000 in
theorem gs_Law_truthGoesOn_L2 (X : Cx θ p s m args c cX5_truthGoesOn 4 RX5) (hr : meth.sig.returnType = some .boolean) (hlk : meth.locks = false) {rc : Nat → Mem → Nat → Int32 → Option (Int32 × Mem)} {nr : Nat} (hrec0 : ∀ {σ : Mem} {x0 : Nat} {x2 : Int32} {r : Int32 × Mem}, kd x0 = 6 → rc 0 σ x0 x2 = some r → Cn θ l yX5_conditionReads cX5_conditionReads 3 (some .boolean) (26 + nr) 0 0 [.ref (be θ + x0), .ref (be θ + 1), .int x2] σ (some (.int r.1), r.2)) (hrec1 : ∀ {σ : Mem} {x0 : Nat} {x2 : Int32} {r : Int32 × Mem}, kd x0 = 6 → rc 1 σ x0 x2 = some r → Cn θ l yX5_conditionGoesOn cX5_conditionGoesOn 4 (some .boolean) (26 + nr) 0 0 [.ref (be θ + x0), .ref (be θ + 1), .int x2] σ (some (.int r.1), r.2)) (hrec2 : ∀ {σ : Mem} {x0 : Nat} {x2 : Int32} {r : Int32 × Mem}, kd x0 = 6 → rc 2 σ x0 x2 = some r → Cn θ l yX5_truthReads cX5_truthReads 3 (some .boolean) (26 + nr) 0 0 [.ref (be θ + x0), .ref (be θ + 1), .int x2] σ (some (.int r.1), r.2)) (hrec3 : ∀ {σ : Mem} {x0 : Nat} {x2 : Int32} {r : Int32 × Mem}, kd x0 = 6 → rc 3 σ x0 x2 = some r → Cn θ l yX5_truthGoesOn cX5_truthGoesOn 4 (some .boolean) (26 + nr) 0 0 [.ref (be θ + x0), .ref (be θ + 1), .int x2] σ (some (.int r.1), r.2)) (hrec4 : ∀ {σ : Mem} {x0 : Nat} {x2 : Int32} {r : Int32 × Mem}, kd x0 = 6 → rc 4 σ x0 x2 = some r → Cn θ l yX5_unitReads cX5_unitReads 4 (some .boolean) (26 + nr) 0 0 [.ref (be θ + x0), .ref (be θ + 1), .int x2] σ (some (.int r.1), r.2))  {x0 : Nat} {x2 : Int32} {r : Int32 × Mem} (h0 : kd x0 = 6) (τ : Mem) (z3 : Int32) (x : (Mem × Int32) ⊕ (Int32 × Mem)) (h : f_Law_truthGoesOn_L2 rc x0 x2 (τ, z3) = some x) (hk : Sum.elim (fun a => @Prod.casesOn (Mem) (Int32) (fun _ => Prop) a fun τ z3 => GB θ p l e (26 + nr + 1) s m args below meth c 4 (some (.int r.1), r.2) 2 [(0, .ref (be θ + x0)), (1, .ref (be θ + 1)), (2, .int x2), (3, .int z3)] [] τ) (fun b => b = r) x) : GB θ p l e (26 + nr + 1) s m args below meth c 4 (some (.int r.1), r.2) 2 [(0, .ref (be θ + x0)), (1, .ref (be θ + 1)), (2, .int x2), (3, .int z3)] [] τ := by
  unfold f_Law_truthGoesOn_L2 at h
  dsimp only at h
  refine g_iload_n X dX5_truthGoesOn_2 rfl 3 rfl ?_
  refine g_sipush X dX5_truthGoesOn_3 (v := (240 : Int32)) sp_240 ?_
  refine g_icmp_ge (tgt := 43) X dX5_truthGoesOn_6 (by decide) (fun c1 => ?_) (fun c1 => ?_)
  · replace h := (if_pos c1).symm.trans h
    refine g_iconst X dX5_truthGoesOn_43 (v := (0 : Int32)) ic_0 ?_
    have hk := inr_hk h hk
    have hk : ((0 : Int32), τ) = r := hk
    subst hk
    exact g_zret X hr hlk bz0 dX5_truthGoesOn_44 rfl
  · replace h := (if_neg c1).symm.trans h
    refine g_aload_n X dX5_truthGoesOn_9 rfl 1 rfl ?_
    refine g_bipush X dX5_truthGoesOn_10 (v := (38 : Int32)) bp_38 ?_
    obtain ⟨q2, hq2, h⟩ := Option.bind_eq_some_iff.mp h
    refine g_cV X (c_Tape_passes  hq2) lk_RX5_35 my_X8_passes (a := 1) (ci := 8) kd_1 (by decide) rfl (As := [.int (38 : Int32)]) (rest := []) rfl rfl (Nat.le_of_ble_eq_true rfl) ⟨(by show 1 + 1 ≤ 26 + nr + 1; omega), (by show 8 + (2 + 11) + 40 * 1 ≤ 40 * (26 + nr + 1); omega)⟩ ⟨(Nat.le_of_ble_eq_true rfl), (Nat.le_of_ble_eq_true rfl)⟩ dX5_truthGoesOn_12 (st' := [.int q2.1]) (σ' := q2.2) rfl rfl ?_
    refine g_if_ne (tgt := 20) X dX5_truthGoesOn_15 (by decide) (fun c3 => ?_) (fun c3 => ?_)
    · replace h := (if_neg c3).symm.trans h
      refine g_aload_n X dX5_truthGoesOn_20 rfl 0 rfl ?_
      refine g_aload_n X dX5_truthGoesOn_21 rfl 1 rfl ?_
      refine g_iload_n X dX5_truthGoesOn_22 rfl 2 rfl ?_
      obtain ⟨q4, hq4, h⟩ := Option.bind_eq_some_iff.mp h
      refine g_cV X (hrec4 h0 hq4) lk_RX5_68 my_X5_unitReads (a := x0) (ci := 5) h0 (by decide) rfl (As := [.ref (be θ + 1), .int x2]) (rest := []) rfl rfl (Nat.le_of_ble_eq_true rfl) ⟨Nat.le_refl _, (by show 8 + (4 + 11) + 40 * (26 + nr) ≤ 40 * (26 + nr + 1); omega)⟩ ⟨(Nat.le_of_ble_eq_true rfl), (Nat.le_of_ble_eq_true rfl)⟩ dX5_truthGoesOn_23 (st' := [.int q4.1]) (σ' := q4.2) rfl rfl ?_
      refine g_if_ne (tgt := 31) X dX5_truthGoesOn_26 (by decide) (fun c5 => ?_) (fun c5 => ?_)
      · replace h := (if_neg c5).symm.trans h
        refine g_aload_n X dX5_truthGoesOn_31 rfl 0 rfl ?_
        refine g_bipush X dX5_truthGoesOn_32 (v := (-38 : Int32)) bp_m38 ?_
        obtain ⟨q6, hq6, h⟩ := Option.bind_eq_some_iff.mp h
        refine g_cV X (c_Law_put h0 hq6) lk_RX5_52 my_X5_put (a := x0) (ci := 5) h0 (by decide) rfl (As := [.int (-38 : Int32)]) (rest := []) rfl rfl (Nat.le_of_ble_eq_true rfl) ⟨(by show 0 + 1 ≤ 26 + nr + 1; omega), (by show 8 + (2 + 11) + 40 * 0 ≤ 40 * (26 + nr + 1); omega)⟩ ⟨(Nat.le_of_ble_eq_true rfl), (Nat.le_of_ble_eq_true rfl)⟩ dX5_truthGoesOn_34 (st' := []) (σ' := q6) rfl rfl ?_
        refine g_iinc X dX5_truthGoesOn_37 (kq := 3) rfl (congrArg (HAdd.hAdd _) ic_1) (by decide) (lv' := [(3, .int (z3 + (1 : Int32))), (0, .ref (be θ + x0)), (1, .ref (be θ + 1)), (2, .int x2)]) rfl ?_
        refine g_goto (tgt := 2) X dX5_truthGoesOn_40 (by decide) ?_
        have hk := inl_hk h hk
        exact g_sub (lv' := [(0, .ref (be θ + x0)), (1, .ref (be θ + 1)), (2, .int x2), (3, .int (z3 + (1 : Int32)))]) [1, 2, 3, 0] rfl hk
      · replace h := (if_pos c5).symm.trans h
        refine g_iconst X dX5_truthGoesOn_29 (v := (0 : Int32)) ic_0 ?_
        have hk := inr_hk h hk
        have hk : ((0 : Int32), q4.2) = r := hk
        subst hk
        exact g_zret X hr hlk bz0 dX5_truthGoesOn_30 rfl
    · replace h := (if_pos c3).symm.trans h
      refine g_iconst X dX5_truthGoesOn_18 (v := (1 : Int32)) ic_1 ?_
      have hk := inr_hk h hk
      have hk : ((1 : Int32), q2.2) = r := hk
      subst hk
      exact g_zret X hr hlk bz1 dX5_truthGoesOn_19 rfl
set_option maxHeartbeats 4000000 in
set_option maxRecDepth 20000 in
theorem gl_Law_truthGoesOn_L2 (X : Cx θ p s m args c cX5_truthGoesOn 4 RX5) (hr : meth.sig.returnType = some .boolean) (hlk : meth.locks = false) {rc : Nat → Mem → Nat → Int32 → Option (Int32 × Mem)} {nr : Nat} (hrec0 : ∀ {σ : Mem} {x0 : Nat} {x2 : Int32} {r : Int32 × Mem}, kd x0 = 6 → rc 0 σ x0 x2 = some r → Cn θ l yX5_conditionReads cX5_conditionReads 3 (some .boolean) (26 + nr) 0 0 [.ref (be θ + x0), .ref (be θ + 1), .int x2] σ (some (.int r.1), r.2)) (hrec1 : ∀ {σ : Mem} {x0 : Nat} {x2 : Int32} {r : Int32 × Mem}, kd x0 = 6 → rc 1 σ x0 x2 = some r → Cn θ l yX5_conditionGoesOn cX5_conditionGoesOn 4 (some .boolean) (26 + nr) 0 0 [.ref (be θ + x0), .ref (be θ + 1), .int x2] σ (some (.int r.1), r.2)) (hrec2 : ∀ {σ : Mem} {x0 : Nat} {x2 : Int32} {r : Int32 × Mem}, kd x0 = 6 → rc 2 σ x0 x2 = some r → Cn θ l yX5_truthReads cX5_truthReads 3 (some .boolean) (26 + nr) 0 0 [.ref (be θ + x0), .ref (be θ + 1), .int x2] σ (some (.int r.1), r.2)) (hrec3 : ∀ {σ : Mem} {x0 : Nat} {x2 : Int32} {r : Int32 × Mem}, kd x0 = 6 → rc 3 σ x0 x2 = some r → Cn θ l yX5_truthGoesOn cX5_truthGoesOn 4 (some .boolean) (26 + nr) 0 0 [.ref (be θ + x0), .ref (be θ + 1), .int x2] σ (some (.int r.1), r.2)) (hrec4 : ∀ {σ : Mem} {x0 : Nat} {x2 : Int32} {r : Int32 × Mem}, kd x0 = 6 → rc 4 σ x0 x2 = some r → Cn θ l yX5_unitReads cX5_unitReads 4 (some .boolean) (26 + nr) 0 0 [.ref (be θ + x0), .ref (be θ + 1), .int x2] σ (some (.int r.1), r.2))  {x0 : Nat} {x2 : Int32} {r : Int32 × Mem} (h0 : kd x0 = 6) (n : Nat) (a : Mem × Int32) (b : Int32 × Mem) (h : loopF (f_Law_truthGoesOn_L2 rc x0 x2) n a = some b) (hk : (fun b => b = r) b) : (fun a => @Prod.casesOn (Mem) (Int32) (fun _ => Prop) a fun τ z3 => GB θ p l e (26 + nr + 1) s m args below meth c 4 (some (.int r.1), r.2) 2 [(0, .ref (be θ + x0)), (1, .ref (be θ + 1)), (2, .int x2), (3, .int z3)] [] τ) a :=
  loopF_by (P := (fun a => @Prod.casesOn (Mem) (Int32) (fun _ => Prop) a fun τ z3 => GB θ p l e (26 + nr + 1) s m args below meth c 4 (some (.int r.1), r.2) 2 [(0, .ref (be θ + x0)), (1, .ref (be θ + 1)), (2, .int x2), (3, .int z3)] [] τ)) (K := (fun b => b = r)) (fun a x h hk => by obtain ⟨τ, z3⟩ := a; exact gs_Law_truthGoesOn_L2 X hr hlk hrec0 hrec1 hrec2 hrec3 hrec4 h0 τ z3 x h hk) n a b h hk
set_option maxHeartbeats 4000000 in
set_option maxRecDepth 20000 in
theorem g_Law_truthGoesOn (X : Cx θ p s m args c cX5_truthGoesOn 4 RX5) (hr : meth.sig.returnType = some .boolean) (hlk : meth.locks = false) {rc : Nat → Mem → Nat → Int32 → Option (Int32 × Mem)} {nr : Nat} (hrec0 : ∀ {σ : Mem} {x0 : Nat} {x2 : Int32} {r : Int32 × Mem}, kd x0 = 6 → rc 0 σ x0 x2 = some r → Cn θ l yX5_conditionReads cX5_conditionReads 3 (some .boolean) (26 + nr) 0 0 [.ref (be θ + x0), .ref (be θ + 1), .int x2] σ (some (.int r.1), r.2)) (hrec1 : ∀ {σ : Mem} {x0 : Nat} {x2 : Int32} {r : Int32 × Mem}, kd x0 = 6 → rc 1 σ x0 x2 = some r → Cn θ l yX5_conditionGoesOn cX5_conditionGoesOn 4 (some .boolean) (26 + nr) 0 0 [.ref (be θ + x0), .ref (be θ + 1), .int x2] σ (some (.int r.1), r.2)) (hrec2 : ∀ {σ : Mem} {x0 : Nat} {x2 : Int32} {r : Int32 × Mem}, kd x0 = 6 → rc 2 σ x0 x2 = some r → Cn θ l yX5_truthReads cX5_truthReads 3 (some .boolean) (26 + nr) 0 0 [.ref (be θ + x0), .ref (be θ + 1), .int x2] σ (some (.int r.1), r.2)) (hrec3 : ∀ {σ : Mem} {x0 : Nat} {x2 : Int32} {r : Int32 × Mem}, kd x0 = 6 → rc 3 σ x0 x2 = some r → Cn θ l yX5_truthGoesOn cX5_truthGoesOn 4 (some .boolean) (26 + nr) 0 0 [.ref (be θ + x0), .ref (be θ + 1), .int x2] σ (some (.int r.1), r.2)) (hrec4 : ∀ {σ : Mem} {x0 : Nat} {x2 : Int32} {r : Int32 × Mem}, kd x0 = 6 → rc 4 σ x0 x2 = some r → Cn θ l yX5_unitReads cX5_unitReads 4 (some .boolean) (26 + nr) 0 0 [.ref (be θ + x0), .ref (be θ + 1), .int x2] σ (some (.int r.1), r.2))  {σ : Mem} {x0 : Nat} {x2 : Int32} {r : Int32 × Mem} (h0 : kd x0 = 6) (h : f_Law_truthGoesOn rc σ x0 x2 = some r) : GB θ p l e (26 + nr + 1) s m args below meth c 4 (some (.int r.1), r.2) 0 [(0, .ref (be θ + x0)), (1, .ref (be θ + 1)), (2, .int x2)] [] σ := by
  unfold f_Law_truthGoesOn at h
  refine g_iconst X dX5_truthGoesOn_0 (v := (0 : Int32)) ic_0 ?_
  refine g_istore_n X dX5_truthGoesOn_1 rfl (by decide) (lv' := [(3, .int (0 : Int32)), (0, .ref (be θ + x0)), (1, .ref (be θ + 1)), (2, .int x2)]) rfl ?_
  exact g_sub (lv' := [(0, .ref (be θ + x0)), (1, .ref (be θ + 1)), (2, .int x2), (3, .int (0 : Int32))]) [1, 2, 3, 0] rfl (gl_Law_truthGoesOn_L2 X hr hlk hrec0 hrec1 hrec2 hrec3 hrec4 h0  FU _ _ h rfl)
def f_Law_unitReads_J41 (rc : Nat → Mem → Nat → Int32 → Option (Int32 × Mem)) (σ : Mem) (x0 : Nat) (x2 : Int32) (y3 : Int32) : Option (Int32 × Mem) :=
  if x2 < (6 : Int32) then
    if y3 = (40 : Int32) then
      (rc 0 (sI σ 1 2 ((mI σ 1 2) + (1 : Int32))) x0 (x2 + (1 : Int32))).bind fun q8 =>
      if q8.1 = (0 : Int32) then
        some ((0 : Int32), q8.2)
      else
        (f_Tape_passes q8.2 (41 : Int32)).bind fun q10 =>
        if q10.1 = (0 : Int32) then
          some ((0 : Int32), q10.2)
        else
          some ((1 : Int32), q10.2)
    else
      (rc 4 (sI σ 1 2 ((mI σ 1 2) + (1 : Int32))) x0 (x2 + (1 : Int32))).bind fun q5 =>
      if q5.1 = (0 : Int32) then
        some ((0 : Int32), q5.2)
      else
        (f_Law_put q5.2 x0 (-33 : Int32)).bind fun q7 =>
        some ((1 : Int32), q7)
  else
    some ((0 : Int32), σ)
def f_Law_unitReads (rc : Nat → Mem → Nat → Int32 → Option (Int32 × Mem)) (σ : Mem) (x0 : Nat) (x2 : Int32) : Option (Int32 × Mem) :=
  (f_Tape_sign σ).bind fun q1 =>
  if q1.1 = (33 : Int32) then
    f_Law_unitReads_J41 rc q1.2 x0 x2 q1.1
  else
    if q1.1 = (40 : Int32) then
      f_Law_unitReads_J41 rc q1.2 x0 x2 q1.1
    else
      (f_LS 24 0 q1.2 x0 x2).bind fun q13 =>
      if q13.1 = (0 : Int32) then
        some ((0 : Int32), q13.2)
      else
        (f_Law_comparisonReads q13.2 x0 x2).bind fun q15 =>
        if q15.1 = (0 : Int32) then
          some ((0 : Int32), q15.2)
        else
          some ((1 : Int32), q15.2)
set_option maxHeartbeats 4000000 in
set_option maxRecDepth 20000 in
theorem g_Law_unitReads_J41 (X : Cx θ p s m args c cX5_unitReads 4 RX5) (hr : meth.sig.returnType = some .boolean) (hlk : meth.locks = false) {rc : Nat → Mem → Nat → Int32 → Option (Int32 × Mem)} {nr : Nat} (hrec0 : ∀ {σ : Mem} {x0 : Nat} {x2 : Int32} {r : Int32 × Mem}, kd x0 = 6 → rc 0 σ x0 x2 = some r → Cn θ l yX5_conditionReads cX5_conditionReads 3 (some .boolean) (26 + nr) 0 0 [.ref (be θ + x0), .ref (be θ + 1), .int x2] σ (some (.int r.1), r.2)) (hrec1 : ∀ {σ : Mem} {x0 : Nat} {x2 : Int32} {r : Int32 × Mem}, kd x0 = 6 → rc 1 σ x0 x2 = some r → Cn θ l yX5_conditionGoesOn cX5_conditionGoesOn 4 (some .boolean) (26 + nr) 0 0 [.ref (be θ + x0), .ref (be θ + 1), .int x2] σ (some (.int r.1), r.2)) (hrec2 : ∀ {σ : Mem} {x0 : Nat} {x2 : Int32} {r : Int32 × Mem}, kd x0 = 6 → rc 2 σ x0 x2 = some r → Cn θ l yX5_truthReads cX5_truthReads 3 (some .boolean) (26 + nr) 0 0 [.ref (be θ + x0), .ref (be θ + 1), .int x2] σ (some (.int r.1), r.2)) (hrec3 : ∀ {σ : Mem} {x0 : Nat} {x2 : Int32} {r : Int32 × Mem}, kd x0 = 6 → rc 3 σ x0 x2 = some r → Cn θ l yX5_truthGoesOn cX5_truthGoesOn 4 (some .boolean) (26 + nr) 0 0 [.ref (be θ + x0), .ref (be θ + 1), .int x2] σ (some (.int r.1), r.2)) (hrec4 : ∀ {σ : Mem} {x0 : Nat} {x2 : Int32} {r : Int32 × Mem}, kd x0 = 6 → rc 4 σ x0 x2 = some r → Cn θ l yX5_unitReads cX5_unitReads 4 (some .boolean) (26 + nr) 0 0 [.ref (be θ + x0), .ref (be θ + 1), .int x2] σ (some (.int r.1), r.2))  {σ : Mem} {x0 : Nat} {x2 : Int32} {y3 : Int32} {r : Int32 × Mem} (h0 : kd x0 = 6) (h : f_Law_unitReads_J41 rc σ x0 x2 y3 = some r) : GB θ p l e (26 + nr + 1) s m args below meth c 4 (some (.int r.1), r.2) 41 [(0, .ref (be θ + x0)), (1, .ref (be θ + 1)), (2, .int x2), (3, .int y3)] [] σ := by
  unfold f_Law_unitReads_J41 at h
  refine g_iload_n X dX5_unitReads_41 rfl 2 rfl ?_
  refine g_bipush X dX5_unitReads_42 (v := (6 : Int32)) bp_6 ?_
  refine g_icmp_lt (tgt := 49) X dX5_unitReads_44 (by decide) (fun c3 => ?_) (fun c3 => ?_)
  · replace h := (if_pos c3).symm.trans h
    refine g_aload_n X dX5_unitReads_49 rfl 1 rfl ?_
    refine g_dup X dX5_unitReads_50 rfl ?_
    refine g_get X fl_RX5_22 dX5_unitReads_51 kd_1 (v := .int (mI σ 1 2)) rfl ?_
    refine g_iconst X dX5_unitReads_54 (v := (1 : Int32)) ic_1 ?_
    refine g_iadd X dX5_unitReads_55 ?_
    refine g_putI X fl_RX5_22 dX5_unitReads_56 kd_1 rfl rfl rfl ?_
    refine g_iload_n X dX5_unitReads_59 rfl 3 rfl ?_
    refine g_bipush X dX5_unitReads_60 (v := (40 : Int32)) bp_40 ?_
    refine g_icmp_ne (tgt := 91) X dX5_unitReads_62 (by decide) (fun c4 => ?_) (fun c4 => ?_)
    · replace h := (if_neg c4).symm.trans h
      refine g_aload_n X dX5_unitReads_91 rfl 0 rfl ?_
      refine g_aload_n X dX5_unitReads_92 rfl 1 rfl ?_
      refine g_iload_n X dX5_unitReads_93 rfl 2 rfl ?_
      refine g_iconst X dX5_unitReads_94 (v := (1 : Int32)) ic_1 ?_
      refine g_iadd X dX5_unitReads_95 ?_
      obtain ⟨q5, hq5, h⟩ := Option.bind_eq_some_iff.mp h
      refine g_cV X (hrec4 h0 hq5) lk_RX5_68 my_X5_unitReads (a := x0) (ci := 5) h0 (by decide) rfl (As := [.ref (be θ + 1), .int (x2 + (1 : Int32))]) (rest := []) rfl rfl (Nat.le_of_ble_eq_true rfl) ⟨Nat.le_refl _, (by show 8 + (4 + 11) + 40 * (26 + nr) ≤ 40 * (26 + nr + 1); omega)⟩ ⟨(Nat.le_of_ble_eq_true rfl), (Nat.le_of_ble_eq_true rfl)⟩ dX5_unitReads_96 (st' := [.int q5.1]) (σ' := q5.2) rfl rfl ?_
      refine g_if_ne (tgt := 104) X dX5_unitReads_99 (by decide) (fun c6 => ?_) (fun c6 => ?_)
      · replace h := (if_neg c6).symm.trans h
        refine g_aload_n X dX5_unitReads_104 rfl 0 rfl ?_
        refine g_bipush X dX5_unitReads_105 (v := (-33 : Int32)) bp_m33 ?_
        obtain ⟨q7, hq7, h⟩ := Option.bind_eq_some_iff.mp h
        refine g_cV X (c_Law_put h0 hq7) lk_RX5_52 my_X5_put (a := x0) (ci := 5) h0 (by decide) rfl (As := [.int (-33 : Int32)]) (rest := []) rfl rfl (Nat.le_of_ble_eq_true rfl) ⟨(by show 0 + 1 ≤ 26 + nr + 1; omega), (by show 8 + (2 + 11) + 40 * 0 ≤ 40 * (26 + nr + 1); omega)⟩ ⟨(Nat.le_of_ble_eq_true rfl), (Nat.le_of_ble_eq_true rfl)⟩ dX5_unitReads_107 (st' := []) (σ' := q7) rfl rfl ?_
        refine g_iconst X dX5_unitReads_110 (v := (1 : Int32)) ic_1 ?_
        exact g_zret X hr hlk bz1 dX5_unitReads_111 (by cases h; rfl)
      · replace h := (if_pos c6).symm.trans h
        refine g_iconst X dX5_unitReads_102 (v := (0 : Int32)) ic_0 ?_
        exact g_zret X hr hlk bz0 dX5_unitReads_103 (by cases h; rfl)
    · replace h := (if_pos c4).symm.trans h
      refine g_aload_n X dX5_unitReads_65 rfl 0 rfl ?_
      refine g_aload_n X dX5_unitReads_66 rfl 1 rfl ?_
      refine g_iload_n X dX5_unitReads_67 rfl 2 rfl ?_
      refine g_iconst X dX5_unitReads_68 (v := (1 : Int32)) ic_1 ?_
      refine g_iadd X dX5_unitReads_69 ?_
      obtain ⟨q8, hq8, h⟩ := Option.bind_eq_some_iff.mp h
      refine g_cV X (hrec0 h0 hq8) lk_RX5_39 my_X5_conditionReads (a := x0) (ci := 5) h0 (by decide) rfl (As := [.ref (be θ + 1), .int (x2 + (1 : Int32))]) (rest := []) rfl rfl (Nat.le_of_ble_eq_true rfl) ⟨Nat.le_refl _, (by show 8 + (3 + 11) + 40 * (26 + nr) ≤ 40 * (26 + nr + 1); omega)⟩ ⟨(Nat.le_of_ble_eq_true rfl), (Nat.le_of_ble_eq_true rfl)⟩ dX5_unitReads_70 (st' := [.int q8.1]) (σ' := q8.2) rfl rfl ?_
      refine g_if_eq (tgt := 89) X dX5_unitReads_73 (by decide) (fun c9 => ?_) (fun c9 => ?_)
      · replace h := (if_pos c9).symm.trans h
        refine g_iconst X dX5_unitReads_89 (v := (0 : Int32)) ic_0 ?_
        exact g_zret X hr hlk bz0 dX5_unitReads_90 (by cases h; rfl)
      · replace h := (if_neg c9).symm.trans h
        refine g_aload_n X dX5_unitReads_76 rfl 1 rfl ?_
        refine g_bipush X dX5_unitReads_77 (v := (41 : Int32)) bp_41 ?_
        obtain ⟨q10, hq10, h⟩ := Option.bind_eq_some_iff.mp h
        refine g_cV X (c_Tape_passes  hq10) lk_RX5_35 my_X8_passes (a := 1) (ci := 8) kd_1 (by decide) rfl (As := [.int (41 : Int32)]) (rest := []) rfl rfl (Nat.le_of_ble_eq_true rfl) ⟨(by show 1 + 1 ≤ 26 + nr + 1; omega), (by show 8 + (2 + 11) + 40 * 1 ≤ 40 * (26 + nr + 1); omega)⟩ ⟨(Nat.le_of_ble_eq_true rfl), (Nat.le_of_ble_eq_true rfl)⟩ dX5_unitReads_79 (st' := [.int q10.1]) (σ' := q10.2) rfl rfl ?_
        refine g_if_eq (tgt := 89) X dX5_unitReads_82 (by decide) (fun c11 => ?_) (fun c11 => ?_)
        · replace h := (if_pos c11).symm.trans h
          refine g_iconst X dX5_unitReads_89 (v := (0 : Int32)) ic_0 ?_
          exact g_zret X hr hlk bz0 dX5_unitReads_90 (by cases h; rfl)
        · replace h := (if_neg c11).symm.trans h
          refine g_iconst X dX5_unitReads_85 (v := (1 : Int32)) ic_1 ?_
          refine g_goto (tgt := 90) X dX5_unitReads_86 (by decide) ?_
          exact g_zret X hr hlk bz1 dX5_unitReads_90 (by cases h; rfl)
  · replace h := (if_neg c3).symm.trans h
    refine g_iconst X dX5_unitReads_47 (v := (0 : Int32)) ic_0 ?_
    exact g_zret X hr hlk bz0 dX5_unitReads_48 (by cases h; rfl)
set_option maxHeartbeats 4000000 in
set_option maxRecDepth 20000 in
theorem g_Law_unitReads (X : Cx θ p s m args c cX5_unitReads 4 RX5) (hr : meth.sig.returnType = some .boolean) (hlk : meth.locks = false) {rc : Nat → Mem → Nat → Int32 → Option (Int32 × Mem)} {nr : Nat} (hrec0 : ∀ {σ : Mem} {x0 : Nat} {x2 : Int32} {r : Int32 × Mem}, kd x0 = 6 → rc 0 σ x0 x2 = some r → Cn θ l yX5_conditionReads cX5_conditionReads 3 (some .boolean) (26 + nr) 0 0 [.ref (be θ + x0), .ref (be θ + 1), .int x2] σ (some (.int r.1), r.2)) (hrec1 : ∀ {σ : Mem} {x0 : Nat} {x2 : Int32} {r : Int32 × Mem}, kd x0 = 6 → rc 1 σ x0 x2 = some r → Cn θ l yX5_conditionGoesOn cX5_conditionGoesOn 4 (some .boolean) (26 + nr) 0 0 [.ref (be θ + x0), .ref (be θ + 1), .int x2] σ (some (.int r.1), r.2)) (hrec2 : ∀ {σ : Mem} {x0 : Nat} {x2 : Int32} {r : Int32 × Mem}, kd x0 = 6 → rc 2 σ x0 x2 = some r → Cn θ l yX5_truthReads cX5_truthReads 3 (some .boolean) (26 + nr) 0 0 [.ref (be θ + x0), .ref (be θ + 1), .int x2] σ (some (.int r.1), r.2)) (hrec3 : ∀ {σ : Mem} {x0 : Nat} {x2 : Int32} {r : Int32 × Mem}, kd x0 = 6 → rc 3 σ x0 x2 = some r → Cn θ l yX5_truthGoesOn cX5_truthGoesOn 4 (some .boolean) (26 + nr) 0 0 [.ref (be θ + x0), .ref (be θ + 1), .int x2] σ (some (.int r.1), r.2)) (hrec4 : ∀ {σ : Mem} {x0 : Nat} {x2 : Int32} {r : Int32 × Mem}, kd x0 = 6 → rc 4 σ x0 x2 = some r → Cn θ l yX5_unitReads cX5_unitReads 4 (some .boolean) (26 + nr) 0 0 [.ref (be θ + x0), .ref (be θ + 1), .int x2] σ (some (.int r.1), r.2))  {σ : Mem} {x0 : Nat} {x2 : Int32} {r : Int32 × Mem} (h0 : kd x0 = 6) (h : f_Law_unitReads rc σ x0 x2 = some r) : GB θ p l e (26 + nr + 1) s m args below meth c 4 (some (.int r.1), r.2) 0 [(0, .ref (be θ + x0)), (1, .ref (be θ + 1)), (2, .int x2)] [] σ := by
  unfold f_Law_unitReads at h
  refine g_aload_n X dX5_unitReads_0 rfl 1 rfl ?_
  obtain ⟨q1, hq1, h⟩ := Option.bind_eq_some_iff.mp h
  refine g_cV X (c_Tape_sign  hq1) lk_RX5_31 my_X8_sign (a := 1) (ci := 8) kd_1 (by decide) rfl (As := []) (rest := []) rfl rfl (Nat.le_of_ble_eq_true rfl) ⟨(by show 0 + 1 ≤ 26 + nr + 1; omega), (by show 8 + (1 + 11) + 40 * 0 ≤ 40 * (26 + nr + 1); omega)⟩ ⟨(Nat.le_of_ble_eq_true rfl), (Nat.le_of_ble_eq_true rfl)⟩ dX5_unitReads_1 (st' := [.int q1.1]) (σ' := q1.2) rfl rfl ?_
  refine g_istore_n X dX5_unitReads_4 rfl (by decide) (lv' := [(3, .int q1.1), (0, .ref (be θ + x0)), (1, .ref (be θ + 1)), (2, .int x2)]) rfl ?_
  refine g_iload_n X dX5_unitReads_5 rfl 0 rfl ?_
  refine g_bipush X dX5_unitReads_6 (v := (33 : Int32)) bp_33 ?_
  refine g_icmp_eq (tgt := 41) X dX5_unitReads_8 (by decide) (fun c2 => ?_) (fun c2 => ?_)
  · replace h := (if_pos c2).symm.trans h
    exact g_sub (lv' := [(0, .ref (be θ + x0)), (1, .ref (be θ + 1)), (2, .int x2), (3, .int q1.1)]) [1, 2, 3, 0] rfl (g_Law_unitReads_J41 X hr hlk hrec0 hrec1 hrec2 hrec3 hrec4 h0  h)
  · replace h := (if_neg c2).symm.trans h
    refine g_iload_n X dX5_unitReads_11 rfl 0 rfl ?_
    refine g_bipush X dX5_unitReads_12 (v := (40 : Int32)) bp_40 ?_
    refine g_icmp_eq (tgt := 41) X dX5_unitReads_14 (by decide) (fun c12 => ?_) (fun c12 => ?_)
    · replace h := (if_pos c12).symm.trans h
      exact g_sub (lv' := [(0, .ref (be θ + x0)), (1, .ref (be θ + 1)), (2, .int x2), (3, .int q1.1)]) [1, 2, 3, 0] rfl (g_Law_unitReads_J41 X hr hlk hrec0 hrec1 hrec2 hrec3 hrec4 h0  h)
    · replace h := (if_neg c12).symm.trans h
      refine g_aload_n X dX5_unitReads_17 rfl 1 rfl ?_
      refine g_aload_n X dX5_unitReads_18 rfl 2 rfl ?_
      refine g_iload_n X dX5_unitReads_19 rfl 3 rfl ?_
      obtain ⟨q13, hq13, h⟩ := Option.bind_eq_some_iff.mp h
      refine g_cV X (c_LS_0 h0 hq13) lk_RX5_46 my_X5_sumReads (a := x0) (ci := 5) h0 (by decide) rfl (As := [.ref (be θ + 1), .int x2]) (rest := []) rfl rfl (Nat.le_of_ble_eq_true rfl) ⟨(by show 25 + 1 ≤ 26 + nr + 1; omega), (by show 8 + (5 + 11) + 40 * 25 ≤ 40 * (26 + nr + 1); omega)⟩ ⟨(Nat.le_of_ble_eq_true rfl), (Nat.le_of_ble_eq_true rfl)⟩ dX5_unitReads_20 (st' := [.int q13.1]) (σ' := q13.2) rfl rfl ?_
      refine g_if_eq (tgt := 39) X dX5_unitReads_23 (by decide) (fun c14 => ?_) (fun c14 => ?_)
      · replace h := (if_pos c14).symm.trans h
        refine g_iconst X dX5_unitReads_39 (v := (0 : Int32)) ic_0 ?_
        exact g_zret X hr hlk bz0 dX5_unitReads_40 (by cases h; rfl)
      · replace h := (if_neg c14).symm.trans h
        refine g_aload_n X dX5_unitReads_26 rfl 1 rfl ?_
        refine g_aload_n X dX5_unitReads_27 rfl 2 rfl ?_
        refine g_iload_n X dX5_unitReads_28 rfl 3 rfl ?_
        obtain ⟨q15, hq15, h⟩ := Option.bind_eq_some_iff.mp h
        refine g_cV X (c_Law_comparisonReads h0 hq15) lk_RX5_56 my_X5_comparisonReads (a := x0) (ci := 5) h0 (by decide) rfl (As := [.ref (be θ + 1), .int x2]) (rest := []) rfl rfl (Nat.le_of_ble_eq_true rfl) ⟨(by show 26 + 1 ≤ 26 + nr + 1; omega), (by show 8 + (4 + 11) + 40 * 26 ≤ 40 * (26 + nr + 1); omega)⟩ ⟨(Nat.le_of_ble_eq_true rfl), (Nat.le_of_ble_eq_true rfl)⟩ dX5_unitReads_29 (st' := [.int q15.1]) (σ' := q15.2) rfl rfl ?_
        refine g_if_eq (tgt := 39) X dX5_unitReads_32 (by decide) (fun c16 => ?_) (fun c16 => ?_)
        · replace h := (if_pos c16).symm.trans h
          refine g_iconst X dX5_unitReads_39 (v := (0 : Int32)) ic_0 ?_
          exact g_zret X hr hlk bz0 dX5_unitReads_40 (by cases h; rfl)
        · replace h := (if_neg c16).symm.trans h
          refine g_iconst X dX5_unitReads_35 (v := (1 : Int32)) ic_1 ?_
          refine g_goto (tgt := 40) X dX5_unitReads_36 (by decide) ?_
          exact g_zret X hr hlk bz1 dX5_unitReads_40 (by cases h; rfl)
def f_LC : Nat → Nat → Mem → Nat → Int32 → Option (Int32 × Mem)
  | 0 => fun _ _ _ _ => none
  | n + 1 => fun no σ z0 z1 => if no = 0 then f_Law_conditionReads (f_LC n) σ z0 z1 else if no = 1 then f_Law_conditionGoesOn (f_LC n) σ z0 z1 else if no = 2 then f_Law_truthReads (f_LC n) σ z0 z1 else if no = 3 then f_Law_truthGoesOn (f_LC n) σ z0 z1 else f_Law_unitReads (f_LC n) σ z0 z1
set_option maxHeartbeats 4000000 in
set_option maxRecDepth 100000 in
theorem a_LC {θ : Th} {l : Launch} : ∀ n : Nat, (∀ {σ : Mem} {x0 : Nat} {x2 : Int32} {r : Int32 × Mem}, kd x0 = 6 → f_LC n 0 σ x0 x2 = some r → Cn θ l yX5_conditionReads cX5_conditionReads 3 (some .boolean) (26 + n) 0 0 [.ref (be θ + x0), .ref (be θ + 1), .int x2] σ (some (.int r.1), r.2)) ∧ (∀ {σ : Mem} {x0 : Nat} {x2 : Int32} {r : Int32 × Mem}, kd x0 = 6 → f_LC n 1 σ x0 x2 = some r → Cn θ l yX5_conditionGoesOn cX5_conditionGoesOn 4 (some .boolean) (26 + n) 0 0 [.ref (be θ + x0), .ref (be θ + 1), .int x2] σ (some (.int r.1), r.2)) ∧ (∀ {σ : Mem} {x0 : Nat} {x2 : Int32} {r : Int32 × Mem}, kd x0 = 6 → f_LC n 2 σ x0 x2 = some r → Cn θ l yX5_truthReads cX5_truthReads 3 (some .boolean) (26 + n) 0 0 [.ref (be θ + x0), .ref (be θ + 1), .int x2] σ (some (.int r.1), r.2)) ∧ (∀ {σ : Mem} {x0 : Nat} {x2 : Int32} {r : Int32 × Mem}, kd x0 = 6 → f_LC n 3 σ x0 x2 = some r → Cn θ l yX5_truthGoesOn cX5_truthGoesOn 4 (some .boolean) (26 + n) 0 0 [.ref (be θ + x0), .ref (be θ + 1), .int x2] σ (some (.int r.1), r.2)) ∧ (∀ {σ : Mem} {x0 : Nat} {x2 : Int32} {r : Int32 × Mem}, kd x0 = 6 → f_LC n 4 σ x0 x2 = some r → Cn θ l yX5_unitReads cX5_unitReads 4 (some .boolean) (26 + n) 0 0 [.ref (be θ + x0), .ref (be θ + 1), .int x2] σ (some (.int r.1), r.2)) := by
  intro n
  induction n with
  | zero =>
    refine ⟨?_, ?_, ?_, ?_, ?_⟩
    · intro σ x0 x2 r h0 h
      cases h
    · intro σ x0 x2 r h0 h
      cases h
    · intro σ x0 x2 r h0 h
      cases h
    · intro σ x0 x2 r h0 h
      cases h
    · intro σ x0 x2 r h0 h
      cases h
  | succ n ih =>
    obtain ⟨i0, i1, i2, i3, i4⟩ := ih
    refine ⟨?_, ?_, ?_, ?_, ?_⟩
    · intro σ x0 x2 r h0 h
      exact Cn.of (by decide) (Nat.le_of_ble_eq_true rfl) (fun p e s m below meth c X hr hlk => g_Law_conditionReads (nr := n) (rc := f_LC n) X hr hlk i0 i1 i2 i3 i4 h0 h)
    · intro σ x0 x2 r h0 h
      exact Cn.of (by decide) (Nat.le_of_ble_eq_true rfl) (fun p e s m below meth c X hr hlk => g_Law_conditionGoesOn (nr := n) (rc := f_LC n) X hr hlk i0 i1 i2 i3 i4 h0 h)
    · intro σ x0 x2 r h0 h
      exact Cn.of (by decide) (Nat.le_of_ble_eq_true rfl) (fun p e s m below meth c X hr hlk => g_Law_truthReads (nr := n) (rc := f_LC n) X hr hlk i0 i1 i2 i3 i4 h0 h)
    · intro σ x0 x2 r h0 h
      exact Cn.of (by decide) (Nat.le_of_ble_eq_true rfl) (fun p e s m below meth c X hr hlk => g_Law_truthGoesOn (nr := n) (rc := f_LC n) X hr hlk i0 i1 i2 i3 i4 h0 h)
    · intro σ x0 x2 r h0 h
      exact Cn.of (by decide) (Nat.le_of_ble_eq_true rfl) (fun p e s m below meth c X hr hlk => g_Law_unitReads (nr := n) (rc := f_LC n) X hr hlk i0 i1 i2 i3 i4 h0 h)
set_option maxRecDepth 100000 in
theorem c_LC_0 {θ : Th} {l : Launch} : ∀ {σ : Mem} {x0 : Nat} {x2 : Int32} {r : Int32 × Mem}, kd x0 = 6 → f_LC 40 0 σ x0 x2 = some r → Cn θ l yX5_conditionReads cX5_conditionReads 3 (some .boolean) 66 0 0 [.ref (be θ + x0), .ref (be θ + 1), .int x2] σ (some (.int r.1), r.2) := (a_LC 40).1
set_option maxRecDepth 100000 in
theorem c_LC_1 {θ : Th} {l : Launch} : ∀ {σ : Mem} {x0 : Nat} {x2 : Int32} {r : Int32 × Mem}, kd x0 = 6 → f_LC 40 1 σ x0 x2 = some r → Cn θ l yX5_conditionGoesOn cX5_conditionGoesOn 4 (some .boolean) 66 0 0 [.ref (be θ + x0), .ref (be θ + 1), .int x2] σ (some (.int r.1), r.2) := (a_LC 40).2.1
set_option maxRecDepth 100000 in
theorem c_LC_2 {θ : Th} {l : Launch} : ∀ {σ : Mem} {x0 : Nat} {x2 : Int32} {r : Int32 × Mem}, kd x0 = 6 → f_LC 40 2 σ x0 x2 = some r → Cn θ l yX5_truthReads cX5_truthReads 3 (some .boolean) 66 0 0 [.ref (be θ + x0), .ref (be θ + 1), .int x2] σ (some (.int r.1), r.2) := (a_LC 40).2.2.1
set_option maxRecDepth 100000 in
theorem c_LC_3 {θ : Th} {l : Launch} : ∀ {σ : Mem} {x0 : Nat} {x2 : Int32} {r : Int32 × Mem}, kd x0 = 6 → f_LC 40 3 σ x0 x2 = some r → Cn θ l yX5_truthGoesOn cX5_truthGoesOn 4 (some .boolean) 66 0 0 [.ref (be θ + x0), .ref (be θ + 1), .int x2] σ (some (.int r.1), r.2) := (a_LC 40).2.2.2.1
set_option maxRecDepth 100000 in
theorem c_LC_4 {θ : Th} {l : Launch} : ∀ {σ : Mem} {x0 : Nat} {x2 : Int32} {r : Int32 × Mem}, kd x0 = 6 → f_LC 40 4 σ x0 x2 = some r → Cn θ l yX5_unitReads cX5_unitReads 4 (some .boolean) 66 0 0 [.ref (be θ + x0), .ref (be θ + 1), .int x2] σ (some (.int r.1), r.2) := (a_LC 40).2.2.2.2
theorem dX5_answerReads_0 : decode cX5_answerReads 0 = .ok (.aload_n 1, 1) := by decide +kernel
theorem dX5_answerReads_1 : decode cX5_answerReads 1 = .ok (.bipush 63, 2) := by decide +kernel
theorem dX5_answerReads_3 : decode cX5_answerReads 3 = .ok (.invokevirtual 35, 3) := by decide +kernel
theorem dX5_answerReads_6 : decode cX5_answerReads 6 = .ok (.ifCond .ne 5, 3) := by decide +kernel
theorem dX5_answerReads_9 : decode cX5_answerReads 9 = .ok (.iconst 0, 1) := by decide +kernel
theorem dX5_answerReads_10 : decode cX5_answerReads 10 = .ok (.ireturn, 1) := by decide +kernel
theorem dX5_answerReads_11 : decode cX5_answerReads 11 = .ok (.aload_n 0, 1) := by decide +kernel
theorem dX5_answerReads_12 : decode cX5_answerReads 12 = .ok (.bipush (-63), 2) := by decide +kernel
theorem dX5_answerReads_14 : decode cX5_answerReads 14 = .ok (.invokevirtual 52, 3) := by decide +kernel
theorem dX5_answerReads_17 : decode cX5_answerReads 17 = .ok (.aload_n 0, 1) := by decide +kernel
theorem dX5_answerReads_18 : decode cX5_answerReads 18 = .ok (.getfield 18, 3) := by decide +kernel
theorem dX5_answerReads_21 : decode cX5_answerReads 21 = .ok (.istore_n 2, 1) := by decide +kernel
theorem dX5_answerReads_22 : decode cX5_answerReads 22 = .ok (.aload_n 0, 1) := by decide +kernel
theorem dX5_answerReads_23 : decode cX5_answerReads 23 = .ok (.iconst 0, 1) := by decide +kernel
theorem dX5_answerReads_24 : decode cX5_answerReads 24 = .ok (.invokevirtual 52, 3) := by decide +kernel
theorem dX5_answerReads_27 : decode cX5_answerReads 27 = .ok (.aload_n 0, 1) := by decide +kernel
theorem dX5_answerReads_28 : decode cX5_answerReads 28 = .ok (.aload_n 1, 1) := by decide +kernel
theorem dX5_answerReads_29 : decode cX5_answerReads 29 = .ok (.iconst 0, 1) := by decide +kernel
theorem dX5_answerReads_30 : decode cX5_answerReads 30 = .ok (.invokevirtual 46, 3) := by decide +kernel
theorem dX5_answerReads_33 : decode cX5_answerReads 33 = .ok (.ifCond .ne 5, 3) := by decide +kernel
theorem dX5_answerReads_36 : decode cX5_answerReads 36 = .ok (.iconst 0, 1) := by decide +kernel
theorem dX5_answerReads_37 : decode cX5_answerReads 37 = .ok (.ireturn, 1) := by decide +kernel
theorem dX5_answerReads_38 : decode cX5_answerReads 38 = .ok (.aload_n 0, 1) := by decide +kernel
theorem dX5_answerReads_39 : decode cX5_answerReads 39 = .ok (.bipush (-59), 2) := by decide +kernel
theorem dX5_answerReads_41 : decode cX5_answerReads 41 = .ok (.invokevirtual 52, 3) := by decide +kernel
theorem dX5_answerReads_44 : decode cX5_answerReads 44 = .ok (.iload_n 2, 1) := by decide +kernel
theorem dX5_answerReads_45 : decode cX5_answerReads 45 = .ok (.sipush 240, 3) := by decide +kernel
theorem dX5_answerReads_48 : decode cX5_answerReads 48 = .ok (.if_icmp .ge 13, 3) := by decide +kernel
theorem dX5_answerReads_51 : decode cX5_answerReads 51 = .ok (.aload_n 0, 1) := by decide +kernel
theorem dX5_answerReads_52 : decode cX5_answerReads 52 = .ok (.getfield 9, 3) := by decide +kernel
theorem dX5_answerReads_55 : decode cX5_answerReads 55 = .ok (.iload_n 2, 1) := by decide +kernel
theorem dX5_answerReads_56 : decode cX5_answerReads 56 = .ok (.aload_n 0, 1) := by decide +kernel
theorem dX5_answerReads_57 : decode cX5_answerReads 57 = .ok (.getfield 18, 3) := by decide +kernel
theorem dX5_answerReads_60 : decode cX5_answerReads 60 = .ok (.iastore, 1) := by decide +kernel
theorem dX5_answerReads_61 : decode cX5_answerReads 61 = .ok (.iconst 1, 1) := by decide +kernel
theorem dX5_answerReads_62 : decode cX5_answerReads 62 = .ok (.ireturn, 1) := by decide +kernel
def f_Law_answerReads (σ : Mem) (x0 : Nat) : Option (Int32 × Mem) :=
  (f_Tape_passes σ (63 : Int32)).bind fun q1 =>
  if q1.1 = (0 : Int32) then
    some ((0 : Int32), q1.2)
  else
    (f_Law_put q1.2 x0 (-63 : Int32)).bind fun q3 =>
    (f_Law_put q3 x0 (0 : Int32)).bind fun q4 =>
    (f_LS 24 0 q4 x0 (0 : Int32)).bind fun q5 =>
    if q5.1 = (0 : Int32) then
      some ((0 : Int32), q5.2)
    else
      (f_Law_put q5.2 x0 (-59 : Int32)).bind fun q7 =>
      if (240 : Int32) ≤ (mI q3 x0 2) then
        some ((1 : Int32), q7)
      else
        if inb (mI q3 x0 2) 240 then
          some ((1 : Int32), (sI q7 (x0 + 1) (mI q3 x0 2).toNatClampNeg (mI q7 x0 2)))
        else none
set_option maxHeartbeats 4000000 in
set_option maxRecDepth 20000 in
theorem g_Law_answerReads (X : Cx θ p s m args c cX5_answerReads 3 RX5) (hr : meth.sig.returnType = some .boolean) (hlk : meth.locks = false)  {σ : Mem} {x0 : Nat} {r : Int32 × Mem} (h0 : kd x0 = 6) (h : f_Law_answerReads σ x0 = some r) : GB θ p l e 26 s m args below meth c 3 (some (.int r.1), r.2) 0 [(0, .ref (be θ + x0)), (1, .ref (be θ + 1))] [] σ := by
  unfold f_Law_answerReads at h
  refine g_aload_n X dX5_answerReads_0 rfl 1 rfl ?_
  refine g_bipush X dX5_answerReads_1 (v := (63 : Int32)) bp_63 ?_
  obtain ⟨q1, hq1, h⟩ := Option.bind_eq_some_iff.mp h
  refine g_cV X (c_Tape_passes  hq1) lk_RX5_35 my_X8_passes (a := 1) (ci := 8) kd_1 (by decide) rfl (As := [.int (63 : Int32)]) (rest := []) rfl rfl (Nat.le_of_ble_eq_true rfl) ⟨(Nat.le_of_ble_eq_true rfl), (Nat.le_of_ble_eq_true rfl)⟩ ⟨(Nat.le_of_ble_eq_true rfl), (Nat.le_of_ble_eq_true rfl)⟩ dX5_answerReads_3 (st' := [.int q1.1]) (σ' := q1.2) rfl rfl ?_
  refine g_if_ne (tgt := 11) X dX5_answerReads_6 (by decide) (fun c2 => ?_) (fun c2 => ?_)
  · replace h := (if_neg c2).symm.trans h
    refine g_aload_n X dX5_answerReads_11 rfl 0 rfl ?_
    refine g_bipush X dX5_answerReads_12 (v := (-63 : Int32)) bp_m63 ?_
    obtain ⟨q3, hq3, h⟩ := Option.bind_eq_some_iff.mp h
    refine g_cV X (c_Law_put h0 hq3) lk_RX5_52 my_X5_put (a := x0) (ci := 5) h0 (by decide) rfl (As := [.int (-63 : Int32)]) (rest := []) rfl rfl (Nat.le_of_ble_eq_true rfl) ⟨(Nat.le_of_ble_eq_true rfl), (Nat.le_of_ble_eq_true rfl)⟩ ⟨(Nat.le_of_ble_eq_true rfl), (Nat.le_of_ble_eq_true rfl)⟩ dX5_answerReads_14 (st' := []) (σ' := q3) rfl rfl ?_
    refine g_aload_n X dX5_answerReads_17 rfl 0 rfl ?_
    refine g_get X fl_RX5_18 dX5_answerReads_18 h0 (v := .int (mI q3 x0 2)) rfl ?_
    refine g_istore_n X dX5_answerReads_21 rfl (by decide) (lv' := [(2, .int (mI q3 x0 2)), (0, .ref (be θ + x0)), (1, .ref (be θ + 1))]) rfl ?_
    refine g_aload_n X dX5_answerReads_22 rfl 1 rfl ?_
    refine g_iconst X dX5_answerReads_23 (v := (0 : Int32)) ic_0 ?_
    obtain ⟨q4, hq4, h⟩ := Option.bind_eq_some_iff.mp h
    refine g_cV X (c_Law_put h0 hq4) lk_RX5_52 my_X5_put (a := x0) (ci := 5) h0 (by decide) rfl (As := [.int (0 : Int32)]) (rest := []) rfl rfl (Nat.le_of_ble_eq_true rfl) ⟨(Nat.le_of_ble_eq_true rfl), (Nat.le_of_ble_eq_true rfl)⟩ ⟨(Nat.le_of_ble_eq_true rfl), (Nat.le_of_ble_eq_true rfl)⟩ dX5_answerReads_24 (st' := []) (σ' := q4) rfl rfl ?_
    refine g_aload_n X dX5_answerReads_27 rfl 1 rfl ?_
    refine g_aload_n X dX5_answerReads_28 rfl 2 rfl ?_
    refine g_iconst X dX5_answerReads_29 (v := (0 : Int32)) ic_0 ?_
    obtain ⟨q5, hq5, h⟩ := Option.bind_eq_some_iff.mp h
    refine g_cV X (c_LS_0 h0 hq5) lk_RX5_46 my_X5_sumReads (a := x0) (ci := 5) h0 (by decide) rfl (As := [.ref (be θ + 1), .int (0 : Int32)]) (rest := []) rfl rfl (Nat.le_of_ble_eq_true rfl) ⟨(Nat.le_of_ble_eq_true rfl), (Nat.le_of_ble_eq_true rfl)⟩ ⟨(Nat.le_of_ble_eq_true rfl), (Nat.le_of_ble_eq_true rfl)⟩ dX5_answerReads_30 (st' := [.int q5.1]) (σ' := q5.2) rfl rfl ?_
    refine g_if_ne (tgt := 38) X dX5_answerReads_33 (by decide) (fun c6 => ?_) (fun c6 => ?_)
    · replace h := (if_neg c6).symm.trans h
      refine g_aload_n X dX5_answerReads_38 rfl 1 rfl ?_
      refine g_bipush X dX5_answerReads_39 (v := (-59 : Int32)) bp_m59 ?_
      obtain ⟨q7, hq7, h⟩ := Option.bind_eq_some_iff.mp h
      refine g_cV X (c_Law_put h0 hq7) lk_RX5_52 my_X5_put (a := x0) (ci := 5) h0 (by decide) rfl (As := [.int (-59 : Int32)]) (rest := []) rfl rfl (Nat.le_of_ble_eq_true rfl) ⟨(Nat.le_of_ble_eq_true rfl), (Nat.le_of_ble_eq_true rfl)⟩ ⟨(Nat.le_of_ble_eq_true rfl), (Nat.le_of_ble_eq_true rfl)⟩ dX5_answerReads_41 (st' := []) (σ' := q7) rfl rfl ?_
      refine g_iload_n X dX5_answerReads_44 rfl 0 rfl ?_
      refine g_sipush X dX5_answerReads_45 (v := (240 : Int32)) sp_240 ?_
      refine g_icmp_ge (tgt := 61) X dX5_answerReads_48 (by decide) (fun c8 => ?_) (fun c8 => ?_)
      · replace h := (if_pos c8).symm.trans h
        refine g_iconst X dX5_answerReads_61 (v := (1 : Int32)) ic_1 ?_
        exact g_zret X hr hlk bz1 dX5_answerReads_62 (by cases h; rfl)
      · replace h := (if_neg c8).symm.trans h
        refine g_aload_n X dX5_answerReads_51 rfl 1 rfl ?_
        refine g_get X fl_RX5_9 dX5_answerReads_52 h0 (v := .ref (be θ + (x0 + 1))) rfl ?_
        refine g_iload_n X dX5_answerReads_55 rfl 0 rfl ?_
        refine g_aload_n X dX5_answerReads_56 rfl 1 rfl ?_
        refine g_get X fl_RX5_18 dX5_answerReads_57 h0 (v := .int (mI q7 x0 2)) rfl ?_
        obtain ⟨g9, h⟩ := ite_some h
        refine g_iast X (lk5_0 h0).1 (lk5_0 h0).2 (inb_in g9) dX5_answerReads_60 ?_
        refine g_iconst X dX5_answerReads_61 (v := (1 : Int32)) ic_1 ?_
        exact g_zret X hr hlk bz1 dX5_answerReads_62 (by cases h; rfl)
    · replace h := (if_pos c6).symm.trans h
      refine g_iconst X dX5_answerReads_36 (v := (0 : Int32)) ic_0 ?_
      exact g_zret X hr hlk bz0 dX5_answerReads_37 (by cases h; rfl)
  · replace h := (if_pos c2).symm.trans h
    refine g_iconst X dX5_answerReads_9 (v := (0 : Int32)) ic_0 ?_
    exact g_zret X hr hlk bz0 dX5_answerReads_10 (by cases h; rfl)
set_option maxHeartbeats 4000000 in
set_option maxRecDepth 20000 in
theorem c_Law_answerReads {θ : Th} {l : Launch} {σ : Mem} {x0 : Nat} {r : Int32 × Mem} (h0 : kd x0 = 6) (h : f_Law_answerReads σ x0 = some r) : Cn θ l yX5_answerReads cX5_answerReads 3 (some .boolean) 26 0 0 [.ref (be θ + x0), .ref (be θ + 1)] σ (some (.int r.1), r.2) :=
  Cn.of (by decide) (Nat.le_of_ble_eq_true rfl) (fun p e s m below meth c X hr hlk => g_Law_answerReads X hr hlk h0 h)
theorem dX5_clauseReads_0 : decode cX5_clauseReads 0 = .ok (.aload_n 1, 1) := by decide +kernel
theorem dX5_clauseReads_1 : decode cX5_clauseReads 1 = .ok (.bipush 121, 2) := by decide +kernel
theorem dX5_clauseReads_3 : decode cX5_clauseReads 3 = .ok (.invokevirtual 35, 3) := by decide +kernel
theorem dX5_clauseReads_6 : decode cX5_clauseReads 6 = .ok (.ifCond .eq 12, 3) := by decide +kernel
theorem dX5_clauseReads_9 : decode cX5_clauseReads 9 = .ok (.aload_n 1, 1) := by decide +kernel
theorem dX5_clauseReads_10 : decode cX5_clauseReads 10 = .ok (.bipush 58, 2) := by decide +kernel
theorem dX5_clauseReads_12 : decode cX5_clauseReads 12 = .ok (.invokevirtual 35, 3) := by decide +kernel
theorem dX5_clauseReads_15 : decode cX5_clauseReads 15 = .ok (.ifCond .ne 5, 3) := by decide +kernel
theorem dX5_clauseReads_18 : decode cX5_clauseReads 18 = .ok (.iconst 0, 1) := by decide +kernel
theorem dX5_clauseReads_19 : decode cX5_clauseReads 19 = .ok (.ireturn, 1) := by decide +kernel
theorem dX5_clauseReads_20 : decode cX5_clauseReads 20 = .ok (.aload_n 1, 1) := by decide +kernel
theorem dX5_clauseReads_21 : decode cX5_clauseReads 21 = .ok (.invokevirtual 31, 3) := by decide +kernel
theorem dX5_clauseReads_24 : decode cX5_clauseReads 24 = .ok (.istore_n 2, 1) := by decide +kernel
theorem dX5_clauseReads_25 : decode cX5_clauseReads 25 = .ok (.iload_n 2, 1) := by decide +kernel
theorem dX5_clauseReads_26 : decode cX5_clauseReads 26 = .ok (.bipush 33, 2) := by decide +kernel
theorem dX5_clauseReads_28 : decode cX5_clauseReads 28 = .ok (.if_icmp .eq 9, 3) := by decide +kernel
theorem dX5_clauseReads_31 : decode cX5_clauseReads 31 = .ok (.iload_n 2, 1) := by decide +kernel
theorem dX5_clauseReads_32 : decode cX5_clauseReads 32 = .ok (.bipush 40, 2) := by decide +kernel
theorem dX5_clauseReads_34 : decode cX5_clauseReads 34 = .ok (.if_icmp .ne 26, 3) := by decide +kernel
theorem dX5_clauseReads_37 : decode cX5_clauseReads 37 = .ok (.aload_n 0, 1) := by decide +kernel
theorem dX5_clauseReads_38 : decode cX5_clauseReads 38 = .ok (.aload_n 1, 1) := by decide +kernel
theorem dX5_clauseReads_39 : decode cX5_clauseReads 39 = .ok (.iconst 0, 1) := by decide +kernel
theorem dX5_clauseReads_40 : decode cX5_clauseReads 40 = .ok (.invokevirtual 39, 3) := by decide +kernel
theorem dX5_clauseReads_43 : decode cX5_clauseReads 43 = .ok (.ifCond .eq 15, 3) := by decide +kernel
theorem dX5_clauseReads_46 : decode cX5_clauseReads 46 = .ok (.aload_n 0, 1) := by decide +kernel
theorem dX5_clauseReads_47 : decode cX5_clauseReads 47 = .ok (.aload_n 1, 1) := by decide +kernel
theorem dX5_clauseReads_48 : decode cX5_clauseReads 48 = .ok (.invokevirtual 43, 3) := by decide +kernel
theorem dX5_clauseReads_51 : decode cX5_clauseReads 51 = .ok (.ifCond .eq 7, 3) := by decide +kernel
theorem dX5_clauseReads_54 : decode cX5_clauseReads 54 = .ok (.iconst 1, 1) := by decide +kernel
theorem dX5_clauseReads_55 : decode cX5_clauseReads 55 = .ok (.goto 4, 3) := by decide +kernel
theorem dX5_clauseReads_58 : decode cX5_clauseReads 58 = .ok (.iconst 0, 1) := by decide +kernel
theorem dX5_clauseReads_59 : decode cX5_clauseReads 59 = .ok (.ireturn, 1) := by decide +kernel
theorem dX5_clauseReads_60 : decode cX5_clauseReads 60 = .ok (.aload_n 0, 1) := by decide +kernel
theorem dX5_clauseReads_61 : decode cX5_clauseReads 61 = .ok (.aload_n 1, 1) := by decide +kernel
theorem dX5_clauseReads_62 : decode cX5_clauseReads 62 = .ok (.iconst 0, 1) := by decide +kernel
theorem dX5_clauseReads_63 : decode cX5_clauseReads 63 = .ok (.invokevirtual 46, 3) := by decide +kernel
theorem dX5_clauseReads_66 : decode cX5_clauseReads 66 = .ok (.ifCond .ne 5, 3) := by decide +kernel
theorem dX5_clauseReads_69 : decode cX5_clauseReads 69 = .ok (.iconst 0, 1) := by decide +kernel
theorem dX5_clauseReads_70 : decode cX5_clauseReads 70 = .ok (.ireturn, 1) := by decide +kernel
theorem dX5_clauseReads_71 : decode cX5_clauseReads 71 = .ok (.aload_n 0, 1) := by decide +kernel
theorem dX5_clauseReads_72 : decode cX5_clauseReads 72 = .ok (.aload_n 1, 1) := by decide +kernel
theorem dX5_clauseReads_73 : decode cX5_clauseReads 73 = .ok (.invokevirtual 31, 3) := by decide +kernel
theorem dX5_clauseReads_76 : decode cX5_clauseReads 76 = .ok (.invokevirtual 49, 3) := by decide +kernel
theorem dX5_clauseReads_79 : decode cX5_clauseReads 79 = .ok (.ifCond .ne 11, 3) := by decide +kernel
theorem dX5_clauseReads_82 : decode cX5_clauseReads 82 = .ok (.aload_n 0, 1) := by decide +kernel
theorem dX5_clauseReads_83 : decode cX5_clauseReads 83 = .ok (.bipush (-59), 2) := by decide +kernel
theorem dX5_clauseReads_85 : decode cX5_clauseReads 85 = .ok (.invokevirtual 52, 3) := by decide +kernel
theorem dX5_clauseReads_88 : decode cX5_clauseReads 88 = .ok (.iconst 1, 1) := by decide +kernel
theorem dX5_clauseReads_89 : decode cX5_clauseReads 89 = .ok (.ireturn, 1) := by decide +kernel
theorem dX5_clauseReads_90 : decode cX5_clauseReads 90 = .ok (.aload_n 0, 1) := by decide +kernel
theorem dX5_clauseReads_91 : decode cX5_clauseReads 91 = .ok (.aload_n 1, 1) := by decide +kernel
theorem dX5_clauseReads_92 : decode cX5_clauseReads 92 = .ok (.iconst 0, 1) := by decide +kernel
theorem dX5_clauseReads_93 : decode cX5_clauseReads 93 = .ok (.invokevirtual 56, 3) := by decide +kernel
theorem dX5_clauseReads_96 : decode cX5_clauseReads 96 = .ok (.ifCond .eq 33, 3) := by decide +kernel
theorem dX5_clauseReads_99 : decode cX5_clauseReads 99 = .ok (.aload_n 0, 1) := by decide +kernel
theorem dX5_clauseReads_100 : decode cX5_clauseReads 100 = .ok (.aload_n 1, 1) := by decide +kernel
theorem dX5_clauseReads_101 : decode cX5_clauseReads 101 = .ok (.iconst 0, 1) := by decide +kernel
theorem dX5_clauseReads_102 : decode cX5_clauseReads 102 = .ok (.invokevirtual 59, 3) := by decide +kernel
theorem dX5_clauseReads_105 : decode cX5_clauseReads 105 = .ok (.ifCond .eq 24, 3) := by decide +kernel
theorem dX5_clauseReads_108 : decode cX5_clauseReads 108 = .ok (.aload_n 0, 1) := by decide +kernel
theorem dX5_clauseReads_109 : decode cX5_clauseReads 109 = .ok (.aload_n 1, 1) := by decide +kernel
theorem dX5_clauseReads_110 : decode cX5_clauseReads 110 = .ok (.iconst 0, 1) := by decide +kernel
theorem dX5_clauseReads_111 : decode cX5_clauseReads 111 = .ok (.invokevirtual 62, 3) := by decide +kernel
theorem dX5_clauseReads_114 : decode cX5_clauseReads 114 = .ok (.ifCond .eq 15, 3) := by decide +kernel
theorem dX5_clauseReads_117 : decode cX5_clauseReads 117 = .ok (.aload_n 0, 1) := by decide +kernel
theorem dX5_clauseReads_118 : decode cX5_clauseReads 118 = .ok (.aload_n 1, 1) := by decide +kernel
theorem dX5_clauseReads_119 : decode cX5_clauseReads 119 = .ok (.invokevirtual 43, 3) := by decide +kernel
theorem dX5_clauseReads_122 : decode cX5_clauseReads 122 = .ok (.ifCond .eq 7, 3) := by decide +kernel
theorem dX5_clauseReads_125 : decode cX5_clauseReads 125 = .ok (.iconst 1, 1) := by decide +kernel
theorem dX5_clauseReads_126 : decode cX5_clauseReads 126 = .ok (.goto 4, 3) := by decide +kernel
theorem dX5_clauseReads_129 : decode cX5_clauseReads 129 = .ok (.iconst 0, 1) := by decide +kernel
theorem dX5_clauseReads_130 : decode cX5_clauseReads 130 = .ok (.ireturn, 1) := by decide +kernel
def f_Law_clauseReads_J37 (σ : Mem) (x0 : Nat) : Option (Int32 × Mem) :=
  (f_LC 40 0 σ x0 (0 : Int32)).bind fun q7 =>
  if q7.1 = (0 : Int32) then
    some ((0 : Int32), q7.2)
  else
    (f_Law_answerReads q7.2 x0).bind fun q9 =>
    if q9.1 = (0 : Int32) then
      some ((0 : Int32), q9.2)
    else
      some ((1 : Int32), q9.2)
def f_Law_clauseReads (σ : Mem) (x0 : Nat) : Option (Int32 × Mem) :=
  (f_Tape_passes σ (121 : Int32)).bind fun q1 =>
  if q1.1 = (0 : Int32) then
    some ((0 : Int32), q1.2)
  else
    (f_Tape_passes q1.2 (58 : Int32)).bind fun q3 =>
    if q3.1 = (0 : Int32) then
      some ((0 : Int32), q3.2)
    else
      (f_Tape_sign q3.2).bind fun q5 =>
      if q5.1 = (33 : Int32) then
        f_Law_clauseReads_J37 q5.2 x0
      else
        if q5.1 = (40 : Int32) then
          f_Law_clauseReads_J37 q5.2 x0
        else
          (f_LS 24 0 q5.2 x0 (0 : Int32)).bind fun q12 =>
          if q12.1 = (0 : Int32) then
            some ((0 : Int32), q12.2)
          else
            (f_Tape_sign q12.2).bind fun q14 =>
            (f_Law_isComparison q14.2 x0 q14.1).bind fun q15 =>
            if q15 = (0 : Int32) then
              (f_Law_put q14.2 x0 (-59 : Int32)).bind fun q25 =>
              some ((1 : Int32), q25)
            else
              (f_Law_comparisonReads q14.2 x0 (0 : Int32)).bind fun q17 =>
              if q17.1 = (0 : Int32) then
                some ((0 : Int32), q17.2)
              else
                (f_LC 40 3 q17.2 x0 (0 : Int32)).bind fun q19 =>
                if q19.1 = (0 : Int32) then
                  some ((0 : Int32), q19.2)
                else
                  (f_LC 40 1 q19.2 x0 (0 : Int32)).bind fun q21 =>
                  if q21.1 = (0 : Int32) then
                    some ((0 : Int32), q21.2)
                  else
                    (f_Law_answerReads q21.2 x0).bind fun q23 =>
                    if q23.1 = (0 : Int32) then
                      some ((0 : Int32), q23.2)
                    else
                      some ((1 : Int32), q23.2)
set_option maxHeartbeats 4000000 in
set_option maxRecDepth 20000 in
theorem g_Law_clauseReads_J37 (X : Cx θ p s m args c cX5_clauseReads 3 RX5) (hr : meth.sig.returnType = some .boolean) (hlk : meth.locks = false)  {σ : Mem} {x0 : Nat} {r : Int32 × Mem} (h0 : kd x0 = 6) (h : f_Law_clauseReads_J37 σ x0 = some r) : GB θ p l e 67 s m args below meth c 3 (some (.int r.1), r.2) 37 [(0, .ref (be θ + x0)), (1, .ref (be θ + 1))] [] σ := by
  unfold f_Law_clauseReads_J37 at h
  refine g_aload_n X dX5_clauseReads_37 rfl 0 rfl ?_
  refine g_aload_n X dX5_clauseReads_38 rfl 1 rfl ?_
  refine g_iconst X dX5_clauseReads_39 (v := (0 : Int32)) ic_0 ?_
  obtain ⟨q7, hq7, h⟩ := Option.bind_eq_some_iff.mp h
  refine g_cV X (c_LC_0 h0 hq7) lk_RX5_39 my_X5_conditionReads (a := x0) (ci := 5) h0 (by decide) rfl (As := [.ref (be θ + 1), .int (0 : Int32)]) (rest := []) rfl rfl (Nat.le_of_ble_eq_true rfl) ⟨(Nat.le_of_ble_eq_true rfl), (Nat.le_of_ble_eq_true rfl)⟩ ⟨(Nat.le_of_ble_eq_true rfl), (Nat.le_of_ble_eq_true rfl)⟩ dX5_clauseReads_40 (st' := [.int q7.1]) (σ' := q7.2) rfl rfl ?_
  refine g_if_eq (tgt := 58) X dX5_clauseReads_43 (by decide) (fun c8 => ?_) (fun c8 => ?_)
  · replace h := (if_pos c8).symm.trans h
    refine g_iconst X dX5_clauseReads_58 (v := (0 : Int32)) ic_0 ?_
    exact g_zret X hr hlk bz0 dX5_clauseReads_59 (by cases h; rfl)
  · replace h := (if_neg c8).symm.trans h
    refine g_aload_n X dX5_clauseReads_46 rfl 0 rfl ?_
    refine g_aload_n X dX5_clauseReads_47 rfl 1 rfl ?_
    obtain ⟨q9, hq9, h⟩ := Option.bind_eq_some_iff.mp h
    refine g_cV X (c_Law_answerReads h0 hq9) lk_RX5_43 my_X5_answerReads (a := x0) (ci := 5) h0 (by decide) rfl (As := [.ref (be θ + 1)]) (rest := []) rfl rfl (Nat.le_of_ble_eq_true rfl) ⟨(Nat.le_of_ble_eq_true rfl), (Nat.le_of_ble_eq_true rfl)⟩ ⟨(Nat.le_of_ble_eq_true rfl), (Nat.le_of_ble_eq_true rfl)⟩ dX5_clauseReads_48 (st' := [.int q9.1]) (σ' := q9.2) rfl rfl ?_
    refine g_if_eq (tgt := 58) X dX5_clauseReads_51 (by decide) (fun c10 => ?_) (fun c10 => ?_)
    · replace h := (if_pos c10).symm.trans h
      refine g_iconst X dX5_clauseReads_58 (v := (0 : Int32)) ic_0 ?_
      exact g_zret X hr hlk bz0 dX5_clauseReads_59 (by cases h; rfl)
    · replace h := (if_neg c10).symm.trans h
      refine g_iconst X dX5_clauseReads_54 (v := (1 : Int32)) ic_1 ?_
      refine g_goto (tgt := 59) X dX5_clauseReads_55 (by decide) ?_
      exact g_zret X hr hlk bz1 dX5_clauseReads_59 (by cases h; rfl)
set_option maxHeartbeats 4000000 in
set_option maxRecDepth 20000 in
theorem g_Law_clauseReads (X : Cx θ p s m args c cX5_clauseReads 3 RX5) (hr : meth.sig.returnType = some .boolean) (hlk : meth.locks = false)  {σ : Mem} {x0 : Nat} {r : Int32 × Mem} (h0 : kd x0 = 6) (h : f_Law_clauseReads σ x0 = some r) : GB θ p l e 67 s m args below meth c 3 (some (.int r.1), r.2) 0 [(0, .ref (be θ + x0)), (1, .ref (be θ + 1))] [] σ := by
  unfold f_Law_clauseReads at h
  refine g_aload_n X dX5_clauseReads_0 rfl 1 rfl ?_
  refine g_bipush X dX5_clauseReads_1 (v := (121 : Int32)) bp_121 ?_
  obtain ⟨q1, hq1, h⟩ := Option.bind_eq_some_iff.mp h
  refine g_cV X (c_Tape_passes  hq1) lk_RX5_35 my_X8_passes (a := 1) (ci := 8) kd_1 (by decide) rfl (As := [.int (121 : Int32)]) (rest := []) rfl rfl (Nat.le_of_ble_eq_true rfl) ⟨(Nat.le_of_ble_eq_true rfl), (Nat.le_of_ble_eq_true rfl)⟩ ⟨(Nat.le_of_ble_eq_true rfl), (Nat.le_of_ble_eq_true rfl)⟩ dX5_clauseReads_3 (st' := [.int q1.1]) (σ' := q1.2) rfl rfl ?_
  refine g_if_eq (tgt := 18) X dX5_clauseReads_6 (by decide) (fun c2 => ?_) (fun c2 => ?_)
  · replace h := (if_pos c2).symm.trans h
    refine g_iconst X dX5_clauseReads_18 (v := (0 : Int32)) ic_0 ?_
    exact g_zret X hr hlk bz0 dX5_clauseReads_19 (by cases h; rfl)
  · replace h := (if_neg c2).symm.trans h
    refine g_aload_n X dX5_clauseReads_9 rfl 1 rfl ?_
    refine g_bipush X dX5_clauseReads_10 (v := (58 : Int32)) bp_58 ?_
    obtain ⟨q3, hq3, h⟩ := Option.bind_eq_some_iff.mp h
    refine g_cV X (c_Tape_passes  hq3) lk_RX5_35 my_X8_passes (a := 1) (ci := 8) kd_1 (by decide) rfl (As := [.int (58 : Int32)]) (rest := []) rfl rfl (Nat.le_of_ble_eq_true rfl) ⟨(Nat.le_of_ble_eq_true rfl), (Nat.le_of_ble_eq_true rfl)⟩ ⟨(Nat.le_of_ble_eq_true rfl), (Nat.le_of_ble_eq_true rfl)⟩ dX5_clauseReads_12 (st' := [.int q3.1]) (σ' := q3.2) rfl rfl ?_
    refine g_if_ne (tgt := 20) X dX5_clauseReads_15 (by decide) (fun c4 => ?_) (fun c4 => ?_)
    · replace h := (if_neg c4).symm.trans h
      refine g_aload_n X dX5_clauseReads_20 rfl 1 rfl ?_
      obtain ⟨q5, hq5, h⟩ := Option.bind_eq_some_iff.mp h
      refine g_cV X (c_Tape_sign  hq5) lk_RX5_31 my_X8_sign (a := 1) (ci := 8) kd_1 (by decide) rfl (As := []) (rest := []) rfl rfl (Nat.le_of_ble_eq_true rfl) ⟨(Nat.le_of_ble_eq_true rfl), (Nat.le_of_ble_eq_true rfl)⟩ ⟨(Nat.le_of_ble_eq_true rfl), (Nat.le_of_ble_eq_true rfl)⟩ dX5_clauseReads_21 (st' := [.int q5.1]) (σ' := q5.2) rfl rfl ?_
      refine g_istore_n X dX5_clauseReads_24 rfl (by decide) (lv' := [(2, .int q5.1), (0, .ref (be θ + x0)), (1, .ref (be θ + 1))]) rfl ?_
      refine g_iload_n X dX5_clauseReads_25 rfl 0 rfl ?_
      refine g_bipush X dX5_clauseReads_26 (v := (33 : Int32)) bp_33 ?_
      refine g_icmp_eq (tgt := 37) X dX5_clauseReads_28 (by decide) (fun c6 => ?_) (fun c6 => ?_)
      · replace h := (if_pos c6).symm.trans h
        exact g_sub (lv' := [(0, .ref (be θ + x0)), (1, .ref (be θ + 1))]) [1, 2] rfl (g_Law_clauseReads_J37 X hr hlk  h0  h)
      · replace h := (if_neg c6).symm.trans h
        refine g_iload_n X dX5_clauseReads_31 rfl 0 rfl ?_
        refine g_bipush X dX5_clauseReads_32 (v := (40 : Int32)) bp_40 ?_
        refine g_icmp_ne (tgt := 60) X dX5_clauseReads_34 (by decide) (fun c11 => ?_) (fun c11 => ?_)
        · replace h := (if_neg c11).symm.trans h
          refine g_aload_n X dX5_clauseReads_60 rfl 1 rfl ?_
          refine g_aload_n X dX5_clauseReads_61 rfl 2 rfl ?_
          refine g_iconst X dX5_clauseReads_62 (v := (0 : Int32)) ic_0 ?_
          obtain ⟨q12, hq12, h⟩ := Option.bind_eq_some_iff.mp h
          refine g_cV X (c_LS_0 h0 hq12) lk_RX5_46 my_X5_sumReads (a := x0) (ci := 5) h0 (by decide) rfl (As := [.ref (be θ + 1), .int (0 : Int32)]) (rest := []) rfl rfl (Nat.le_of_ble_eq_true rfl) ⟨(Nat.le_of_ble_eq_true rfl), (Nat.le_of_ble_eq_true rfl)⟩ ⟨(Nat.le_of_ble_eq_true rfl), (Nat.le_of_ble_eq_true rfl)⟩ dX5_clauseReads_63 (st' := [.int q12.1]) (σ' := q12.2) rfl rfl ?_
          refine g_if_ne (tgt := 71) X dX5_clauseReads_66 (by decide) (fun c13 => ?_) (fun c13 => ?_)
          · replace h := (if_neg c13).symm.trans h
            refine g_aload_n X dX5_clauseReads_71 rfl 1 rfl ?_
            refine g_aload_n X dX5_clauseReads_72 rfl 2 rfl ?_
            obtain ⟨q14, hq14, h⟩ := Option.bind_eq_some_iff.mp h
            refine g_cV X (c_Tape_sign  hq14) lk_RX5_31 my_X8_sign (a := 1) (ci := 8) kd_1 (by decide) rfl (As := []) (rest := [.ref (be θ + x0)]) rfl rfl (Nat.le_of_ble_eq_true rfl) ⟨(Nat.le_of_ble_eq_true rfl), (Nat.le_of_ble_eq_true rfl)⟩ ⟨(Nat.le_of_ble_eq_true rfl), (Nat.le_of_ble_eq_true rfl)⟩ dX5_clauseReads_73 (st' := [.int q14.1, .ref (be θ + x0)]) (σ' := q14.2) rfl rfl ?_
            obtain ⟨q15, hq15, h⟩ := Option.bind_eq_some_iff.mp h
            refine g_cV X (c_Law_isComparison h0 hq15) lk_RX5_49 my_X5_isComparison (a := x0) (ci := 5) h0 (by decide) rfl (As := [.int q14.1]) (rest := []) rfl rfl (Nat.le_of_ble_eq_true rfl) ⟨(Nat.le_of_ble_eq_true rfl), (Nat.le_of_ble_eq_true rfl)⟩ ⟨(Nat.le_of_ble_eq_true rfl), (Nat.le_of_ble_eq_true rfl)⟩ dX5_clauseReads_76 (st' := [.int q15]) (σ' := q14.2) rfl rfl ?_
            refine g_if_ne (tgt := 90) X dX5_clauseReads_79 (by decide) (fun c16 => ?_) (fun c16 => ?_)
            · replace h := (if_neg c16).symm.trans h
              refine g_aload_n X dX5_clauseReads_90 rfl 1 rfl ?_
              refine g_aload_n X dX5_clauseReads_91 rfl 2 rfl ?_
              refine g_iconst X dX5_clauseReads_92 (v := (0 : Int32)) ic_0 ?_
              obtain ⟨q17, hq17, h⟩ := Option.bind_eq_some_iff.mp h
              refine g_cV X (c_Law_comparisonReads h0 hq17) lk_RX5_56 my_X5_comparisonReads (a := x0) (ci := 5) h0 (by decide) rfl (As := [.ref (be θ + 1), .int (0 : Int32)]) (rest := []) rfl rfl (Nat.le_of_ble_eq_true rfl) ⟨(Nat.le_of_ble_eq_true rfl), (Nat.le_of_ble_eq_true rfl)⟩ ⟨(Nat.le_of_ble_eq_true rfl), (Nat.le_of_ble_eq_true rfl)⟩ dX5_clauseReads_93 (st' := [.int q17.1]) (σ' := q17.2) rfl rfl ?_
              refine g_if_eq (tgt := 129) X dX5_clauseReads_96 (by decide) (fun c18 => ?_) (fun c18 => ?_)
              · replace h := (if_pos c18).symm.trans h
                refine g_iconst X dX5_clauseReads_129 (v := (0 : Int32)) ic_0 ?_
                exact g_zret X hr hlk bz0 dX5_clauseReads_130 (by cases h; rfl)
              · replace h := (if_neg c18).symm.trans h
                refine g_aload_n X dX5_clauseReads_99 rfl 1 rfl ?_
                refine g_aload_n X dX5_clauseReads_100 rfl 2 rfl ?_
                refine g_iconst X dX5_clauseReads_101 (v := (0 : Int32)) ic_0 ?_
                obtain ⟨q19, hq19, h⟩ := Option.bind_eq_some_iff.mp h
                refine g_cV X (c_LC_3 h0 hq19) lk_RX5_59 my_X5_truthGoesOn (a := x0) (ci := 5) h0 (by decide) rfl (As := [.ref (be θ + 1), .int (0 : Int32)]) (rest := []) rfl rfl (Nat.le_of_ble_eq_true rfl) ⟨(Nat.le_of_ble_eq_true rfl), (Nat.le_of_ble_eq_true rfl)⟩ ⟨(Nat.le_of_ble_eq_true rfl), (Nat.le_of_ble_eq_true rfl)⟩ dX5_clauseReads_102 (st' := [.int q19.1]) (σ' := q19.2) rfl rfl ?_
                refine g_if_eq (tgt := 129) X dX5_clauseReads_105 (by decide) (fun c20 => ?_) (fun c20 => ?_)
                · replace h := (if_pos c20).symm.trans h
                  refine g_iconst X dX5_clauseReads_129 (v := (0 : Int32)) ic_0 ?_
                  exact g_zret X hr hlk bz0 dX5_clauseReads_130 (by cases h; rfl)
                · replace h := (if_neg c20).symm.trans h
                  refine g_aload_n X dX5_clauseReads_108 rfl 1 rfl ?_
                  refine g_aload_n X dX5_clauseReads_109 rfl 2 rfl ?_
                  refine g_iconst X dX5_clauseReads_110 (v := (0 : Int32)) ic_0 ?_
                  obtain ⟨q21, hq21, h⟩ := Option.bind_eq_some_iff.mp h
                  refine g_cV X (c_LC_1 h0 hq21) lk_RX5_62 my_X5_conditionGoesOn (a := x0) (ci := 5) h0 (by decide) rfl (As := [.ref (be θ + 1), .int (0 : Int32)]) (rest := []) rfl rfl (Nat.le_of_ble_eq_true rfl) ⟨(Nat.le_of_ble_eq_true rfl), (Nat.le_of_ble_eq_true rfl)⟩ ⟨(Nat.le_of_ble_eq_true rfl), (Nat.le_of_ble_eq_true rfl)⟩ dX5_clauseReads_111 (st' := [.int q21.1]) (σ' := q21.2) rfl rfl ?_
                  refine g_if_eq (tgt := 129) X dX5_clauseReads_114 (by decide) (fun c22 => ?_) (fun c22 => ?_)
                  · replace h := (if_pos c22).symm.trans h
                    refine g_iconst X dX5_clauseReads_129 (v := (0 : Int32)) ic_0 ?_
                    exact g_zret X hr hlk bz0 dX5_clauseReads_130 (by cases h; rfl)
                  · replace h := (if_neg c22).symm.trans h
                    refine g_aload_n X dX5_clauseReads_117 rfl 1 rfl ?_
                    refine g_aload_n X dX5_clauseReads_118 rfl 2 rfl ?_
                    obtain ⟨q23, hq23, h⟩ := Option.bind_eq_some_iff.mp h
                    refine g_cV X (c_Law_answerReads h0 hq23) lk_RX5_43 my_X5_answerReads (a := x0) (ci := 5) h0 (by decide) rfl (As := [.ref (be θ + 1)]) (rest := []) rfl rfl (Nat.le_of_ble_eq_true rfl) ⟨(Nat.le_of_ble_eq_true rfl), (Nat.le_of_ble_eq_true rfl)⟩ ⟨(Nat.le_of_ble_eq_true rfl), (Nat.le_of_ble_eq_true rfl)⟩ dX5_clauseReads_119 (st' := [.int q23.1]) (σ' := q23.2) rfl rfl ?_
                    refine g_if_eq (tgt := 129) X dX5_clauseReads_122 (by decide) (fun c24 => ?_) (fun c24 => ?_)
                    · replace h := (if_pos c24).symm.trans h
                      refine g_iconst X dX5_clauseReads_129 (v := (0 : Int32)) ic_0 ?_
                      exact g_zret X hr hlk bz0 dX5_clauseReads_130 (by cases h; rfl)
                    · replace h := (if_neg c24).symm.trans h
                      refine g_iconst X dX5_clauseReads_125 (v := (1 : Int32)) ic_1 ?_
                      refine g_goto (tgt := 130) X dX5_clauseReads_126 (by decide) ?_
                      exact g_zret X hr hlk bz1 dX5_clauseReads_130 (by cases h; rfl)
            · replace h := (if_pos c16).symm.trans h
              refine g_aload_n X dX5_clauseReads_82 rfl 1 rfl ?_
              refine g_bipush X dX5_clauseReads_83 (v := (-59 : Int32)) bp_m59 ?_
              obtain ⟨q25, hq25, h⟩ := Option.bind_eq_some_iff.mp h
              refine g_cV X (c_Law_put h0 hq25) lk_RX5_52 my_X5_put (a := x0) (ci := 5) h0 (by decide) rfl (As := [.int (-59 : Int32)]) (rest := []) rfl rfl (Nat.le_of_ble_eq_true rfl) ⟨(Nat.le_of_ble_eq_true rfl), (Nat.le_of_ble_eq_true rfl)⟩ ⟨(Nat.le_of_ble_eq_true rfl), (Nat.le_of_ble_eq_true rfl)⟩ dX5_clauseReads_85 (st' := []) (σ' := q25) rfl rfl ?_
              refine g_iconst X dX5_clauseReads_88 (v := (1 : Int32)) ic_1 ?_
              exact g_zret X hr hlk bz1 dX5_clauseReads_89 (by cases h; rfl)
          · replace h := (if_pos c13).symm.trans h
            refine g_iconst X dX5_clauseReads_69 (v := (0 : Int32)) ic_0 ?_
            exact g_zret X hr hlk bz0 dX5_clauseReads_70 (by cases h; rfl)
        · replace h := (if_pos c11).symm.trans h
          exact g_sub (lv' := [(0, .ref (be θ + x0)), (1, .ref (be θ + 1))]) [1, 2] rfl (g_Law_clauseReads_J37 X hr hlk  h0  h)
    · replace h := (if_pos c4).symm.trans h
      refine g_iconst X dX5_clauseReads_18 (v := (0 : Int32)) ic_0 ?_
      exact g_zret X hr hlk bz0 dX5_clauseReads_19 (by cases h; rfl)
set_option maxHeartbeats 4000000 in
set_option maxRecDepth 20000 in
theorem c_Law_clauseReads {θ : Th} {l : Launch} {σ : Mem} {x0 : Nat} {r : Int32 × Mem} (h0 : kd x0 = 6) (h : f_Law_clauseReads σ x0 = some r) : Cn θ l yX5_clauseReads cX5_clauseReads 3 (some .boolean) 67 0 0 [.ref (be θ + x0), .ref (be θ + 1)] σ (some (.int r.1), r.2) :=
  Cn.of (by decide) (Nat.le_of_ble_eq_true rfl) (fun p e s m below meth c X hr hlk => g_Law_clauseReads X hr hlk h0 h)
theorem dX5_read_0 : decode cX5_read 0 = .ok (.aload_n 0, 1) := by decide +kernel
theorem dX5_read_1 : decode cX5_read 1 = .ok (.iconst 0, 1) := by decide +kernel
theorem dX5_read_2 : decode cX5_read 2 = .ok (.putfield 18, 3) := by decide +kernel
theorem dX5_read_5 : decode cX5_read 5 = .ok (.aload_n 1, 1) := by decide +kernel
theorem dX5_read_6 : decode cX5_read 6 = .ok (.iconst 0, 1) := by decide +kernel
theorem dX5_read_7 : decode cX5_read 7 = .ok (.putfield 22, 3) := by decide +kernel
theorem dX5_read_10 : decode cX5_read 10 = .ok (.iconst 0, 1) := by decide +kernel
theorem dX5_read_11 : decode cX5_read 11 = .ok (.istore_n 2, 1) := by decide +kernel
theorem dX5_read_12 : decode cX5_read 12 = .ok (.iload_n 2, 1) := by decide +kernel
theorem dX5_read_13 : decode cX5_read 13 = .ok (.sipush 240, 3) := by decide +kernel
theorem dX5_read_16 : decode cX5_read 16 = .ok (.if_icmp .ge 45, 3) := by decide +kernel
theorem dX5_read_19 : decode cX5_read 19 = .ok (.aload_n 0, 1) := by decide +kernel
theorem dX5_read_20 : decode cX5_read 20 = .ok (.aload_n 1, 1) := by decide +kernel
theorem dX5_read_21 : decode cX5_read 21 = .ok (.invokevirtual 27, 3) := by decide +kernel
theorem dX5_read_24 : decode cX5_read 24 = .ok (.ifCond .ne 8, 3) := by decide +kernel
theorem dX5_read_27 : decode cX5_read 27 = .ok (.aload_n 1, 1) := by decide +kernel
theorem dX5_read_28 : decode cX5_read 28 = .ok (.getfield 22, 3) := by decide +kernel
theorem dX5_read_31 : decode cX5_read 31 = .ok (.ireturn, 1) := by decide +kernel
theorem dX5_read_32 : decode cX5_read 32 = .ok (.aload_n 1, 1) := by decide +kernel
theorem dX5_read_33 : decode cX5_read 33 = .ok (.invokevirtual 31, 3) := by decide +kernel
theorem dX5_read_36 : decode cX5_read 36 = .ok (.ifCond .ne 5, 3) := by decide +kernel
theorem dX5_read_39 : decode cX5_read 39 = .ok (.iconst (-1), 1) := by decide +kernel
theorem dX5_read_40 : decode cX5_read 40 = .ok (.ireturn, 1) := by decide +kernel
theorem dX5_read_41 : decode cX5_read 41 = .ok (.aload_n 1, 1) := by decide +kernel
theorem dX5_read_42 : decode cX5_read 42 = .ok (.bipush 59, 2) := by decide +kernel
theorem dX5_read_44 : decode cX5_read 44 = .ok (.invokevirtual 35, 3) := by decide +kernel
theorem dX5_read_47 : decode cX5_read 47 = .ok (.ifCond .ne 8, 3) := by decide +kernel
theorem dX5_read_50 : decode cX5_read 50 = .ok (.aload_n 1, 1) := by decide +kernel
theorem dX5_read_51 : decode cX5_read 51 = .ok (.getfield 22, 3) := by decide +kernel
theorem dX5_read_54 : decode cX5_read 54 = .ok (.ireturn, 1) := by decide +kernel
theorem dX5_read_55 : decode cX5_read 55 = .ok (.iinc 2 1, 3) := by decide +kernel
theorem dX5_read_58 : decode cX5_read 58 = .ok (.goto (-46), 3) := by decide +kernel
theorem dX5_read_61 : decode cX5_read 61 = .ok (.aload_n 1, 1) := by decide +kernel
theorem dX5_read_62 : decode cX5_read 62 = .ok (.getfield 22, 3) := by decide +kernel
theorem dX5_read_65 : decode cX5_read 65 = .ok (.ireturn, 1) := by decide +kernel
def f_Law_read_L12 (x0 : Nat) (a : Mem × Int32) : Option ((Mem × Int32) ⊕ (Int32 × Mem)) :=
  @Prod.casesOn (Mem) (Int32) (fun _ => Option ((Mem × Int32) ⊕ (Int32 × Mem))) a fun τ z2 =>
  if (240 : Int32) ≤ z2 then
    some (.inr ((mI τ 1 2), τ))
  else
    (f_Law_clauseReads τ x0).bind fun q2 =>
    if q2.1 = (0 : Int32) then
      some (.inr ((mI q2.2 1 2), q2.2))
    else
      (f_Tape_sign q2.2).bind fun q4 =>
      if q4.1 = (0 : Int32) then
        some (.inr ((-1 : Int32), q4.2))
      else
        (f_Tape_passes q4.2 (59 : Int32)).bind fun q6 =>
        if q6.1 = (0 : Int32) then
          some (.inr ((mI q6.2 1 2), q6.2))
        else
          some (.inl (q6.2, (z2 + (1 : Int32))))
def f_Law_read (σ : Mem) (x0 : Nat) : Option (Int32 × Mem) :=
  loopF (f_Law_read_L12 x0) FU ((sI (sI σ x0 2 (0 : Int32)) 1 2 (0 : Int32)), (0 : Int32))
set_option maxHeartbeats 4000000 in
set_option maxRecDepth 20000 in
theorem gs_Law_read_L12 (X : Cx θ p s m args c cX5_read 3 RX5) (hr : meth.sig.returnType = some .int) (hlk : meth.locks = false)  {x0 : Nat} {r : Int32 × Mem} (h0 : kd x0 = 6) (τ : Mem) (z2 : Int32) (x : (Mem × Int32) ⊕ (Int32 × Mem)) (h : f_Law_read_L12 x0 (τ, z2) = some x) (hk : Sum.elim (fun a => @Prod.casesOn (Mem) (Int32) (fun _ => Prop) a fun τ z2 => GB θ p l e 68 s m args below meth c 3 (some (.int r.1), r.2) 12 [(0, .ref (be θ + x0)), (1, .ref (be θ + 1)), (2, .int z2)] [] τ) (fun b => b = r) x) : GB θ p l e 68 s m args below meth c 3 (some (.int r.1), r.2) 12 [(0, .ref (be θ + x0)), (1, .ref (be θ + 1)), (2, .int z2)] [] τ := by
  unfold f_Law_read_L12 at h
  dsimp only at h
  refine g_iload_n X dX5_read_12 rfl 2 rfl ?_
  refine g_sipush X dX5_read_13 (v := (240 : Int32)) sp_240 ?_
  refine g_icmp_ge (tgt := 61) X dX5_read_16 (by decide) (fun c1 => ?_) (fun c1 => ?_)
  · replace h := (if_pos c1).symm.trans h
    refine g_aload_n X dX5_read_61 rfl 1 rfl ?_
    refine g_get X fl_RX5_22 dX5_read_62 kd_1 (v := .int (mI τ 1 2)) rfl ?_
    have hk := inr_hk h hk
    have hk : ((mI τ 1 2), τ) = r := hk
    subst hk
    exact g_iret X hr hlk dX5_read_65 rfl
  · replace h := (if_neg c1).symm.trans h
    refine g_aload_n X dX5_read_19 rfl 0 rfl ?_
    refine g_aload_n X dX5_read_20 rfl 1 rfl ?_
    obtain ⟨q2, hq2, h⟩ := Option.bind_eq_some_iff.mp h
    refine g_cV X (c_Law_clauseReads h0 hq2) lk_RX5_27 my_X5_clauseReads (a := x0) (ci := 5) h0 (by decide) rfl (As := [.ref (be θ + 1)]) (rest := []) rfl rfl (Nat.le_of_ble_eq_true rfl) ⟨(Nat.le_of_ble_eq_true rfl), (Nat.le_of_ble_eq_true rfl)⟩ ⟨(Nat.le_of_ble_eq_true rfl), (Nat.le_of_ble_eq_true rfl)⟩ dX5_read_21 (st' := [.int q2.1]) (σ' := q2.2) rfl rfl ?_
    refine g_if_ne (tgt := 32) X dX5_read_24 (by decide) (fun c3 => ?_) (fun c3 => ?_)
    · replace h := (if_neg c3).symm.trans h
      refine g_aload_n X dX5_read_32 rfl 1 rfl ?_
      obtain ⟨q4, hq4, h⟩ := Option.bind_eq_some_iff.mp h
      refine g_cV X (c_Tape_sign  hq4) lk_RX5_31 my_X8_sign (a := 1) (ci := 8) kd_1 (by decide) rfl (As := []) (rest := []) rfl rfl (Nat.le_of_ble_eq_true rfl) ⟨(Nat.le_of_ble_eq_true rfl), (Nat.le_of_ble_eq_true rfl)⟩ ⟨(Nat.le_of_ble_eq_true rfl), (Nat.le_of_ble_eq_true rfl)⟩ dX5_read_33 (st' := [.int q4.1]) (σ' := q4.2) rfl rfl ?_
      refine g_if_ne (tgt := 41) X dX5_read_36 (by decide) (fun c5 => ?_) (fun c5 => ?_)
      · replace h := (if_neg c5).symm.trans h
        refine g_aload_n X dX5_read_41 rfl 1 rfl ?_
        refine g_bipush X dX5_read_42 (v := (59 : Int32)) bp_59 ?_
        obtain ⟨q6, hq6, h⟩ := Option.bind_eq_some_iff.mp h
        refine g_cV X (c_Tape_passes  hq6) lk_RX5_35 my_X8_passes (a := 1) (ci := 8) kd_1 (by decide) rfl (As := [.int (59 : Int32)]) (rest := []) rfl rfl (Nat.le_of_ble_eq_true rfl) ⟨(Nat.le_of_ble_eq_true rfl), (Nat.le_of_ble_eq_true rfl)⟩ ⟨(Nat.le_of_ble_eq_true rfl), (Nat.le_of_ble_eq_true rfl)⟩ dX5_read_44 (st' := [.int q6.1]) (σ' := q6.2) rfl rfl ?_
        refine g_if_ne (tgt := 55) X dX5_read_47 (by decide) (fun c7 => ?_) (fun c7 => ?_)
        · replace h := (if_neg c7).symm.trans h
          refine g_iinc X dX5_read_55 (kq := 2) rfl (congrArg (HAdd.hAdd _) ic_1) (by decide) (lv' := [(2, .int (z2 + (1 : Int32))), (0, .ref (be θ + x0)), (1, .ref (be θ + 1))]) rfl ?_
          refine g_goto (tgt := 12) X dX5_read_58 (by decide) ?_
          have hk := inl_hk h hk
          exact g_sub (lv' := [(0, .ref (be θ + x0)), (1, .ref (be θ + 1)), (2, .int (z2 + (1 : Int32)))]) [1, 2, 0] rfl hk
        · replace h := (if_pos c7).symm.trans h
          refine g_aload_n X dX5_read_50 rfl 1 rfl ?_
          refine g_get X fl_RX5_22 dX5_read_51 kd_1 (v := .int (mI q6.2 1 2)) rfl ?_
          have hk := inr_hk h hk
          have hk : ((mI q6.2 1 2), q6.2) = r := hk
          subst hk
          exact g_iret X hr hlk dX5_read_54 rfl
      · replace h := (if_pos c5).symm.trans h
        refine g_iconst X dX5_read_39 (v := (-1 : Int32)) ic_m1 ?_
        have hk := inr_hk h hk
        have hk : ((-1 : Int32), q4.2) = r := hk
        subst hk
        exact g_iret X hr hlk dX5_read_40 rfl
    · replace h := (if_pos c3).symm.trans h
      refine g_aload_n X dX5_read_27 rfl 1 rfl ?_
      refine g_get X fl_RX5_22 dX5_read_28 kd_1 (v := .int (mI q2.2 1 2)) rfl ?_
      have hk := inr_hk h hk
      have hk : ((mI q2.2 1 2), q2.2) = r := hk
      subst hk
      exact g_iret X hr hlk dX5_read_31 rfl
set_option maxHeartbeats 4000000 in
set_option maxRecDepth 20000 in
theorem gl_Law_read_L12 (X : Cx θ p s m args c cX5_read 3 RX5) (hr : meth.sig.returnType = some .int) (hlk : meth.locks = false)  {x0 : Nat} {r : Int32 × Mem} (h0 : kd x0 = 6) (n : Nat) (a : Mem × Int32) (b : Int32 × Mem) (h : loopF (f_Law_read_L12 x0) n a = some b) (hk : (fun b => b = r) b) : (fun a => @Prod.casesOn (Mem) (Int32) (fun _ => Prop) a fun τ z2 => GB θ p l e 68 s m args below meth c 3 (some (.int r.1), r.2) 12 [(0, .ref (be θ + x0)), (1, .ref (be θ + 1)), (2, .int z2)] [] τ) a :=
  loopF_by (P := (fun a => @Prod.casesOn (Mem) (Int32) (fun _ => Prop) a fun τ z2 => GB θ p l e 68 s m args below meth c 3 (some (.int r.1), r.2) 12 [(0, .ref (be θ + x0)), (1, .ref (be θ + 1)), (2, .int z2)] [] τ)) (K := (fun b => b = r)) (fun a x h hk => by obtain ⟨τ, z2⟩ := a; exact gs_Law_read_L12 X hr hlk  h0 τ z2 x h hk) n a b h hk
set_option maxHeartbeats 4000000 in
set_option maxRecDepth 20000 in
theorem g_Law_read (X : Cx θ p s m args c cX5_read 3 RX5) (hr : meth.sig.returnType = some .int) (hlk : meth.locks = false)  {σ : Mem} {x0 : Nat} {r : Int32 × Mem} (h0 : kd x0 = 6) (h : f_Law_read σ x0 = some r) : GB θ p l e 68 s m args below meth c 3 (some (.int r.1), r.2) 0 [(0, .ref (be θ + x0)), (1, .ref (be θ + 1))] [] σ := by
  unfold f_Law_read at h
  refine g_aload_n X dX5_read_0 rfl 0 rfl ?_
  refine g_iconst X dX5_read_1 (v := (0 : Int32)) ic_0 ?_
  refine g_putI X fl_RX5_18 dX5_read_2 h0 rfl rfl rfl ?_
  refine g_aload_n X dX5_read_5 rfl 1 rfl ?_
  refine g_iconst X dX5_read_6 (v := (0 : Int32)) ic_0 ?_
  refine g_putI X fl_RX5_22 dX5_read_7 kd_1 rfl rfl rfl ?_
  refine g_iconst X dX5_read_10 (v := (0 : Int32)) ic_0 ?_
  refine g_istore_n X dX5_read_11 rfl (by decide) (lv' := [(2, .int (0 : Int32)), (0, .ref (be θ + x0)), (1, .ref (be θ + 1))]) rfl ?_
  exact g_sub (lv' := [(0, .ref (be θ + x0)), (1, .ref (be θ + 1)), (2, .int (0 : Int32))]) [1, 2, 0] rfl (gl_Law_read_L12 X hr hlk  h0  FU _ _ h rfl)
set_option maxHeartbeats 4000000 in
set_option maxRecDepth 20000 in
theorem c_Law_read {θ : Th} {l : Launch} {σ : Mem} {x0 : Nat} {r : Int32 × Mem} (h0 : kd x0 = 6) (h : f_Law_read σ x0 = some r) : Cn θ l yX5_read cX5_read 3 (some .int) 68 0 0 [.ref (be θ + x0), .ref (be θ + 1)] σ (some (.int r.1), r.2) :=
  Cn.of (by decide) (Nat.le_of_ble_eq_true rfl) (fun p e s m below meth c X hr hlk => g_Law_read X hr hlk h0 h)
theorem dX6_startingAt_0 : decode cX6_startingAt 0 = .ok (.aload_n 0, 1) := by decide +kernel
theorem dX6_startingAt_1 : decode cX6_startingAt 1 = .ok (.getfield 12, 3) := by decide +kernel
theorem dX6_startingAt_4 : decode cX6_startingAt 4 = .ok (.aload_n 1, 1) := by decide +kernel
theorem dX6_startingAt_5 : decode cX6_startingAt 5 = .ok (.invokevirtual 29, 3) := by decide +kernel
theorem dX6_startingAt_8 : decode cX6_startingAt 8 = .ok (.aload_n 0, 1) := by decide +kernel
theorem dX6_startingAt_9 : decode cX6_startingAt 9 = .ok (.getfield 12, 3) := by decide +kernel
theorem dX6_startingAt_12 : decode cX6_startingAt 12 = .ok (.areturn, 1) := by decide +kernel
def f_Outlook_startingAt (σ : Mem) (x1 : Nat) : Option (Mem) :=
  (f_State_copyFrom σ 435 x1).bind fun q1 =>
  some q1
set_option maxHeartbeats 4000000 in
set_option maxRecDepth 20000 in
theorem g_Outlook_startingAt (X : Cx θ p s m args c cX6_startingAt 2 RX6) (hr : meth.sig.returnType = some (.object "NearlyBought$State")) (hlk : meth.locks = false)  {σ : Mem} {x1 : Nat} {r : Mem} (h1 : kd x1 = 8) (h : f_Outlook_startingAt σ x1 = some r) : GB θ p l e 2 s m args below meth c 2 (some (.ref (be θ + 435)), r) 0 [(0, .ref (be θ + 434)), (1, .ref (be θ + x1))] [] σ := by
  unfold f_Outlook_startingAt at h
  refine g_aload_n X dX6_startingAt_0 rfl 0 rfl ?_
  refine g_get X fl_RX6_12 dX6_startingAt_1 kd_434 (v := .ref (be θ + 435)) rfl ?_
  refine g_aload_n X dX6_startingAt_4 rfl 1 rfl ?_
  obtain ⟨q1, hq1, h⟩ := Option.bind_eq_some_iff.mp h
  refine g_cV X (c_State_copyFrom kd_435 h1 hq1) lk_RX6_29 my_X7_copyFrom (a := 435) (ci := 7) kd_435 (by decide) rfl (As := [.ref (be θ + x1)]) (rest := []) rfl rfl (Nat.le_of_ble_eq_true rfl) ⟨(Nat.le_of_ble_eq_true rfl), (Nat.le_of_ble_eq_true rfl)⟩ ⟨(Nat.le_of_ble_eq_true rfl), (Nat.le_of_ble_eq_true rfl)⟩ dX6_startingAt_5 (st' := []) (σ' := q1) rfl rfl ?_
  refine g_aload_n X dX6_startingAt_8 rfl 0 rfl ?_
  refine g_get X fl_RX6_12 dX6_startingAt_9 kd_434 (v := .ref (be θ + 435)) rfl ?_
  exact g_aret X hr hlk dX6_startingAt_12 (by cases h; rfl)
set_option maxHeartbeats 4000000 in
set_option maxRecDepth 20000 in
theorem c_Outlook_startingAt {θ : Th} {l : Launch} {σ : Mem} {x1 : Nat} {r : Mem} (h1 : kd x1 = 8) (h : f_Outlook_startingAt σ x1 = some r) : Cn θ l yX6_startingAt cX6_startingAt 2 (some (.object "NearlyBought$State")) 2 0 0 [.ref (be θ + 434), .ref (be θ + x1)] σ (some (.ref (be θ + 435)), r) :=
  Cn.of (by decide) (Nat.le_of_ble_eq_true rfl) (fun p e s m below meth c X hr hlk => g_Outlook_startingAt X hr hlk h1 h)
theorem dX6_behind_0 : decode cX6_behind 0 = .ok (.aload_n 0, 1) := by decide +kernel
theorem dX6_behind_1 : decode cX6_behind 1 = .ok (.getfield 12, 3) := by decide +kernel
theorem dX6_behind_4 : decode cX6_behind 4 = .ok (.aload_n 2, 1) := by decide +kernel
theorem dX6_behind_5 : decode cX6_behind 5 = .ok (.invokevirtual 29, 3) := by decide +kernel
theorem dX6_behind_8 : decode cX6_behind 8 = .ok (.iconst 0, 1) := by decide +kernel
theorem dX6_behind_9 : decode cX6_behind 9 = .ok (.istore 4, 2) := by decide +kernel
theorem dX6_behind_11 : decode cX6_behind 11 = .ok (.iload 4, 2) := by decide +kernel
theorem dX6_behind_13 : decode cX6_behind 13 = .ok (.iload_n 3, 1) := by decide +kernel
theorem dX6_behind_14 : decode cX6_behind 14 = .ok (.if_icmp .ge 17, 3) := by decide +kernel
theorem dX6_behind_17 : decode cX6_behind 17 = .ok (.aload_n 1, 1) := by decide +kernel
theorem dX6_behind_18 : decode cX6_behind 18 = .ok (.aload_n 0, 1) := by decide +kernel
theorem dX6_behind_19 : decode cX6_behind 19 = .ok (.getfield 12, 3) := by decide +kernel
theorem dX6_behind_22 : decode cX6_behind 22 = .ok (.invokevirtual 33, 3) := by decide +kernel
theorem dX6_behind_25 : decode cX6_behind 25 = .ok (.iinc 4 1, 3) := by decide +kernel
theorem dX6_behind_28 : decode cX6_behind 28 = .ok (.goto (-17), 3) := by decide +kernel
theorem dX6_behind_31 : decode cX6_behind 31 = .ok (.aload_n 0, 1) := by decide +kernel
theorem dX6_behind_32 : decode cX6_behind 32 = .ok (.getfield 12, 3) := by decide +kernel
theorem dX6_behind_35 : decode cX6_behind 35 = .ok (.areturn, 1) := by decide +kernel
def f_Outlook_behind_L11 (x2 : Nat) (x3 : Int32) (a : Mem × Int32) : Option ((Mem × Int32) ⊕ (Mem)) :=
  @Prod.casesOn (Mem) (Int32) (fun _ => Option ((Mem × Int32) ⊕ (Mem))) a fun τ z4 =>
  if x3 ≤ z4 then
    some (.inr τ)
  else
    (f_Trade_passHour τ 435).bind fun q3 =>
    some (.inl (q3, (z4 + (1 : Int32))))
def f_Outlook_behind (σ : Mem) (x2 : Nat) (x3 : Int32) : Option (Mem) :=
  (f_State_copyFrom σ 435 x2).bind fun q1 =>
  loopF (f_Outlook_behind_L11 x2 x3) FU (q1, (0 : Int32))
set_option maxHeartbeats 4000000 in
set_option maxRecDepth 20000 in
theorem gs_Outlook_behind_L11 (X : Cx θ p s m args c cX6_behind 5 RX6) (hr : meth.sig.returnType = some (.object "NearlyBought$State")) (hlk : meth.locks = false)  {x2 : Nat} {x3 : Int32} {r : Mem} (h2 : kd x2 = 8) (τ : Mem) (z4 : Int32) (x : (Mem × Int32) ⊕ (Mem)) (h : f_Outlook_behind_L11 x2 x3 (τ, z4) = some x) (hk : Sum.elim (fun a => @Prod.casesOn (Mem) (Int32) (fun _ => Prop) a fun τ z4 => GB θ p l e 5 s m args below meth c 5 (some (.ref (be θ + 435)), r) 11 [(0, .ref (be θ + 434)), (1, .ref (be θ + 428)), (2, .ref (be θ + x2)), (3, .int x3), (4, .int z4)] [] τ) (fun b => b = r) x) : GB θ p l e 5 s m args below meth c 5 (some (.ref (be θ + 435)), r) 11 [(0, .ref (be θ + 434)), (1, .ref (be θ + 428)), (2, .ref (be θ + x2)), (3, .int x3), (4, .int z4)] [] τ := by
  unfold f_Outlook_behind_L11 at h
  dsimp only at h
  refine g_iload X dX6_behind_11 4 rfl ?_
  refine g_iload_n X dX6_behind_13 rfl 3 rfl ?_
  refine g_icmp_ge (tgt := 31) X dX6_behind_14 (by decide) (fun c2 => ?_) (fun c2 => ?_)
  · replace h := (if_pos c2).symm.trans h
    refine g_aload_n X dX6_behind_31 rfl 0 rfl ?_
    refine g_get X fl_RX6_12 dX6_behind_32 kd_434 (v := .ref (be θ + 435)) rfl ?_
    have hk := inr_hk h hk
    have hk : τ = r := hk
    subst hk
    exact g_aret X hr hlk dX6_behind_35 rfl
  · replace h := (if_neg c2).symm.trans h
    refine g_aload_n X dX6_behind_17 rfl 1 rfl ?_
    refine g_aload_n X dX6_behind_18 rfl 0 rfl ?_
    refine g_get X fl_RX6_12 dX6_behind_19 kd_434 (v := .ref (be θ + 435)) rfl ?_
    obtain ⟨q3, hq3, h⟩ := Option.bind_eq_some_iff.mp h
    refine g_cV X (c_Trade_passHour kd_435 hq3) lk_RX6_33 my_X9_passHour (a := 428) (ci := 9) kd_428 (by decide) rfl (As := [.ref (be θ + 435)]) (rest := []) rfl rfl (Nat.le_of_ble_eq_true rfl) ⟨(Nat.le_of_ble_eq_true rfl), (Nat.le_of_ble_eq_true rfl)⟩ ⟨(Nat.le_of_ble_eq_true rfl), (Nat.le_of_ble_eq_true rfl)⟩ dX6_behind_22 (st' := []) (σ' := q3) rfl rfl ?_
    refine g_iinc X dX6_behind_25 (kq := 4) rfl (congrArg (HAdd.hAdd _) ic_1) (by decide) (lv' := [(4, .int (z4 + (1 : Int32))), (0, .ref (be θ + 434)), (1, .ref (be θ + 428)), (2, .ref (be θ + x2)), (3, .int x3)]) rfl ?_
    refine g_goto (tgt := 11) X dX6_behind_28 (by decide) ?_
    have hk := inl_hk h hk
    exact g_sub (lv' := [(0, .ref (be θ + 434)), (1, .ref (be θ + 428)), (2, .ref (be θ + x2)), (3, .int x3), (4, .int (z4 + (1 : Int32)))]) [1, 2, 3, 4, 0] rfl hk
set_option maxHeartbeats 4000000 in
set_option maxRecDepth 20000 in
theorem gl_Outlook_behind_L11 (X : Cx θ p s m args c cX6_behind 5 RX6) (hr : meth.sig.returnType = some (.object "NearlyBought$State")) (hlk : meth.locks = false)  {x2 : Nat} {x3 : Int32} {r : Mem} (h2 : kd x2 = 8) (n : Nat) (a : Mem × Int32) (b : Mem) (h : loopF (f_Outlook_behind_L11 x2 x3) n a = some b) (hk : (fun b => b = r) b) : (fun a => @Prod.casesOn (Mem) (Int32) (fun _ => Prop) a fun τ z4 => GB θ p l e 5 s m args below meth c 5 (some (.ref (be θ + 435)), r) 11 [(0, .ref (be θ + 434)), (1, .ref (be θ + 428)), (2, .ref (be θ + x2)), (3, .int x3), (4, .int z4)] [] τ) a :=
  loopF_by (P := (fun a => @Prod.casesOn (Mem) (Int32) (fun _ => Prop) a fun τ z4 => GB θ p l e 5 s m args below meth c 5 (some (.ref (be θ + 435)), r) 11 [(0, .ref (be θ + 434)), (1, .ref (be θ + 428)), (2, .ref (be θ + x2)), (3, .int x3), (4, .int z4)] [] τ)) (K := (fun b => b = r)) (fun a x h hk => by obtain ⟨τ, z4⟩ := a; exact gs_Outlook_behind_L11 X hr hlk  h2 τ z4 x h hk) n a b h hk
set_option maxHeartbeats 4000000 in
set_option maxRecDepth 20000 in
theorem g_Outlook_behind (X : Cx θ p s m args c cX6_behind 5 RX6) (hr : meth.sig.returnType = some (.object "NearlyBought$State")) (hlk : meth.locks = false)  {σ : Mem} {x2 : Nat} {x3 : Int32} {r : Mem} (h2 : kd x2 = 8) (h : f_Outlook_behind σ x2 x3 = some r) : GB θ p l e 5 s m args below meth c 5 (some (.ref (be θ + 435)), r) 0 [(0, .ref (be θ + 434)), (1, .ref (be θ + 428)), (2, .ref (be θ + x2)), (3, .int x3)] [] σ := by
  unfold f_Outlook_behind at h
  refine g_aload_n X dX6_behind_0 rfl 0 rfl ?_
  refine g_get X fl_RX6_12 dX6_behind_1 kd_434 (v := .ref (be θ + 435)) rfl ?_
  refine g_aload_n X dX6_behind_4 rfl 2 rfl ?_
  obtain ⟨q1, hq1, h⟩ := Option.bind_eq_some_iff.mp h
  refine g_cV X (c_State_copyFrom kd_435 h2 hq1) lk_RX6_29 my_X7_copyFrom (a := 435) (ci := 7) kd_435 (by decide) rfl (As := [.ref (be θ + x2)]) (rest := []) rfl rfl (Nat.le_of_ble_eq_true rfl) ⟨(Nat.le_of_ble_eq_true rfl), (Nat.le_of_ble_eq_true rfl)⟩ ⟨(Nat.le_of_ble_eq_true rfl), (Nat.le_of_ble_eq_true rfl)⟩ dX6_behind_5 (st' := []) (σ' := q1) rfl rfl ?_
  refine g_iconst X dX6_behind_8 (v := (0 : Int32)) ic_0 ?_
  refine g_istore X dX6_behind_9 (by decide) (lv' := [(4, .int (0 : Int32)), (0, .ref (be θ + 434)), (1, .ref (be θ + 428)), (2, .ref (be θ + x2)), (3, .int x3)]) rfl ?_
  exact g_sub (lv' := [(0, .ref (be θ + 434)), (1, .ref (be θ + 428)), (2, .ref (be θ + x2)), (3, .int x3), (4, .int (0 : Int32))]) [1, 2, 3, 4, 0] rfl (gl_Outlook_behind_L11 X hr hlk  h2  FU _ _ h rfl)
set_option maxHeartbeats 4000000 in
set_option maxRecDepth 20000 in
theorem c_Outlook_behind {θ : Th} {l : Launch} {σ : Mem} {x2 : Nat} {x3 : Int32} {r : Mem} (h2 : kd x2 = 8) (h : f_Outlook_behind σ x2 x3 = some r) : Cn θ l yX6_behind cX6_behind 5 (some (.object "NearlyBought$State")) 5 0 0 [.ref (be θ + 434), .ref (be θ + 428), .ref (be θ + x2), .int x3] σ (some (.ref (be θ + 435)), r) :=
  Cn.of (by decide) (Nat.le_of_ble_eq_true rfl) (fun p e s m below meth c X hr hlk => g_Outlook_behind X hr hlk h2 h)
theorem dX6_seekRate_0 : decode cX6_seekRate 0 = .ok (.aload_n 0, 1) := by decide +kernel
theorem dX6_seekRate_1 : decode cX6_seekRate 1 = .ok (.iconst (-1), 1) := by decide +kernel
theorem dX6_seekRate_2 : decode cX6_seekRate 2 = .ok (.putfield 22, 3) := by decide +kernel
theorem dX6_seekRate_5 : decode cX6_seekRate 5 = .ok (.aload_n 0, 1) := by decide +kernel
theorem dX6_seekRate_6 : decode cX6_seekRate 6 = .ok (.iconst (-1), 1) := by decide +kernel
theorem dX6_seekRate_7 : decode cX6_seekRate 7 = .ok (.putfield 26, 3) := by decide +kernel
theorem dX6_seekRate_10 : decode cX6_seekRate 10 = .ok (.iconst 0, 1) := by decide +kernel
theorem dX6_seekRate_11 : decode cX6_seekRate 11 = .ok (.istore 4, 2) := by decide +kernel
theorem dX6_seekRate_13 : decode cX6_seekRate 13 = .ok (.iload 4, 2) := by decide +kernel
theorem dX6_seekRate_15 : decode cX6_seekRate 15 = .ok (.bipush 8, 2) := by decide +kernel
theorem dX6_seekRate_17 : decode cX6_seekRate 17 = .ok (.if_icmp .gt 80, 3) := by decide +kernel
theorem dX6_seekRate_20 : decode cX6_seekRate 20 = .ok (.aload_n 0, 1) := by decide +kernel
theorem dX6_seekRate_21 : decode cX6_seekRate 21 = .ok (.getfield 12, 3) := by decide +kernel
theorem dX6_seekRate_24 : decode cX6_seekRate 24 = .ok (.aload_n 2, 1) := by decide +kernel
theorem dX6_seekRate_25 : decode cX6_seekRate 25 = .ok (.invokevirtual 29, 3) := by decide +kernel
theorem dX6_seekRate_28 : decode cX6_seekRate 28 = .ok (.aload_n 0, 1) := by decide +kernel
theorem dX6_seekRate_29 : decode cX6_seekRate 29 = .ok (.getfield 12, 3) := by decide +kernel
theorem dX6_seekRate_32 : decode cX6_seekRate 32 = .ok (.iload 4, 2) := by decide +kernel
theorem dX6_seekRate_34 : decode cX6_seekRate 34 = .ok (.putfield 38, 3) := by decide +kernel
theorem dX6_seekRate_37 : decode cX6_seekRate 37 = .ok (.iconst 0, 1) := by decide +kernel
theorem dX6_seekRate_38 : decode cX6_seekRate 38 = .ok (.istore 5, 2) := by decide +kernel
theorem dX6_seekRate_40 : decode cX6_seekRate 40 = .ok (.iload 5, 2) := by decide +kernel
theorem dX6_seekRate_42 : decode cX6_seekRate 42 = .ok (.iload_n 3, 1) := by decide +kernel
theorem dX6_seekRate_43 : decode cX6_seekRate 43 = .ok (.if_icmp .ge 17, 3) := by decide +kernel
theorem dX6_seekRate_46 : decode cX6_seekRate 46 = .ok (.aload_n 1, 1) := by decide +kernel
theorem dX6_seekRate_47 : decode cX6_seekRate 47 = .ok (.aload_n 0, 1) := by decide +kernel
theorem dX6_seekRate_48 : decode cX6_seekRate 48 = .ok (.getfield 12, 3) := by decide +kernel
theorem dX6_seekRate_51 : decode cX6_seekRate 51 = .ok (.invokevirtual 33, 3) := by decide +kernel
theorem dX6_seekRate_54 : decode cX6_seekRate 54 = .ok (.iinc 5 1, 3) := by decide +kernel
theorem dX6_seekRate_57 : decode cX6_seekRate 57 = .ok (.goto (-17), 3) := by decide +kernel
theorem dX6_seekRate_60 : decode cX6_seekRate 60 = .ok (.aload_n 0, 1) := by decide +kernel
theorem dX6_seekRate_61 : decode cX6_seekRate 61 = .ok (.getfield 12, 3) := by decide +kernel
theorem dX6_seekRate_64 : decode cX6_seekRate 64 = .ok (.getfield 41, 3) := by decide +kernel
theorem dX6_seekRate_67 : decode cX6_seekRate 67 = .ok (.aload_n 0, 1) := by decide +kernel
theorem dX6_seekRate_68 : decode cX6_seekRate 68 = .ok (.getfield 26, 3) := by decide +kernel
theorem dX6_seekRate_71 : decode cX6_seekRate 71 = .ok (.if_icmp .le 20, 3) := by decide +kernel
theorem dX6_seekRate_74 : decode cX6_seekRate 74 = .ok (.aload_n 0, 1) := by decide +kernel
theorem dX6_seekRate_75 : decode cX6_seekRate 75 = .ok (.iload 4, 2) := by decide +kernel
theorem dX6_seekRate_77 : decode cX6_seekRate 77 = .ok (.putfield 22, 3) := by decide +kernel
theorem dX6_seekRate_80 : decode cX6_seekRate 80 = .ok (.aload_n 0, 1) := by decide +kernel
theorem dX6_seekRate_81 : decode cX6_seekRate 81 = .ok (.aload_n 0, 1) := by decide +kernel
theorem dX6_seekRate_82 : decode cX6_seekRate 82 = .ok (.getfield 12, 3) := by decide +kernel
theorem dX6_seekRate_85 : decode cX6_seekRate 85 = .ok (.getfield 41, 3) := by decide +kernel
theorem dX6_seekRate_88 : decode cX6_seekRate 88 = .ok (.putfield 26, 3) := by decide +kernel
theorem dX6_seekRate_91 : decode cX6_seekRate 91 = .ok (.iinc 4 1, 3) := by decide +kernel
theorem dX6_seekRate_94 : decode cX6_seekRate 94 = .ok (.goto (-81), 3) := by decide +kernel
theorem dX6_seekRate_97 : decode cX6_seekRate 97 = .ok (.return_, 1) := by decide +kernel
def f_Outlook_seekRate_L40 (x2 : Nat) (x3 : Int32) (y4 : Int32) (a : Mem × Int32) : Option ((Mem × Int32) ⊕ (Mem)) :=
  @Prod.casesOn (Mem) (Int32) (fun _ => Option ((Mem × Int32) ⊕ (Mem))) a fun τ z5 =>
  if x3 ≤ z5 then
    some (.inr τ)
  else
    (f_Trade_passHour τ 435).bind fun q4 =>
    some (.inl (q4, (z5 + (1 : Int32))))
def f_Outlook_seekRate_L13 (x2 : Nat) (x3 : Int32) (a : Mem × Int32) : Option ((Mem × Int32) ⊕ (Mem)) :=
  @Prod.casesOn (Mem) (Int32) (fun _ => Option ((Mem × Int32) ⊕ (Mem))) a fun τ z4 =>
  if (8 : Int32) < z4 then
    some (.inr τ)
  else
    (f_State_copyFrom τ 435 x2).bind fun q2 =>
    (loopF (f_Outlook_seekRate_L40 x2 x3 z4) FU ((sI q2 435 11 z4), (0 : Int32))).bind fun w5 =>
    if (mI w5 435 13) ≤ (mI w5 434 3) then
      some (.inl (w5, (z4 + (1 : Int32))))
    else
      some (.inl ((sI (sI w5 434 2 z4) 434 3 (mI (sI w5 434 2 z4) 435 13)), (z4 + (1 : Int32))))
def f_Outlook_seekRate (σ : Mem) (x2 : Nat) (x3 : Int32) : Option (Mem) :=
  loopF (f_Outlook_seekRate_L13 x2 x3) FU ((sI (sI σ 434 2 (-1 : Int32)) 434 3 (-1 : Int32)), (0 : Int32))
set_option maxHeartbeats 4000000 in
set_option maxRecDepth 20000 in
theorem gs_Outlook_seekRate_L40 (X : Cx θ p s m args c cX6_seekRate 6 RX6) (hr : meth.sig.returnType = none) (hlk : meth.locks = false)  {x2 : Nat} {x3 : Int32} {y4 : Int32} {r : Mem} (h2 : kd x2 = 8) (τ : Mem) (z5 : Int32) (x : (Mem × Int32) ⊕ (Mem)) (h : f_Outlook_seekRate_L40 x2 x3 y4 (τ, z5) = some x) (hk : Sum.elim (fun a => @Prod.casesOn (Mem) (Int32) (fun _ => Prop) a fun τ z5 => GB θ p l e 5 s m args below meth c 6 (none, r) 40 [(0, .ref (be θ + 434)), (1, .ref (be θ + 428)), (2, .ref (be θ + x2)), (3, .int x3), (4, .int y4), (5, .int z5)] [] τ) (fun w => GB θ p l e 5 s m args below meth c 6 (none, r) 60 [(0, .ref (be θ + 434)), (1, .ref (be θ + 428)), (2, .ref (be θ + x2)), (3, .int x3), (4, .int y4)] [] w) x) : GB θ p l e 5 s m args below meth c 6 (none, r) 40 [(0, .ref (be θ + 434)), (1, .ref (be θ + 428)), (2, .ref (be θ + x2)), (3, .int x3), (4, .int y4), (5, .int z5)] [] τ := by
  unfold f_Outlook_seekRate_L40 at h
  dsimp only at h
  refine g_iload X dX6_seekRate_40 5 rfl ?_
  refine g_iload_n X dX6_seekRate_42 rfl 3 rfl ?_
  refine g_icmp_ge (tgt := 60) X dX6_seekRate_43 (by decide) (fun c3 => ?_) (fun c3 => ?_)
  · replace h := (if_pos c3).symm.trans h
    have hk := inr_hk h hk
    exact g_sub (lv' := [(0, .ref (be θ + 434)), (1, .ref (be θ + 428)), (2, .ref (be θ + x2)), (3, .int x3), (4, .int y4)]) [0, 1, 2, 3, 4] rfl hk
  · replace h := (if_neg c3).symm.trans h
    refine g_aload_n X dX6_seekRate_46 rfl 1 rfl ?_
    refine g_aload_n X dX6_seekRate_47 rfl 0 rfl ?_
    refine g_get X fl_RX6_12 dX6_seekRate_48 kd_434 (v := .ref (be θ + 435)) rfl ?_
    obtain ⟨q4, hq4, h⟩ := Option.bind_eq_some_iff.mp h
    refine g_cV X (c_Trade_passHour kd_435 hq4) lk_RX6_33 my_X9_passHour (a := 428) (ci := 9) kd_428 (by decide) rfl (As := [.ref (be θ + 435)]) (rest := []) rfl rfl (Nat.le_of_ble_eq_true rfl) ⟨(Nat.le_of_ble_eq_true rfl), (Nat.le_of_ble_eq_true rfl)⟩ ⟨(Nat.le_of_ble_eq_true rfl), (Nat.le_of_ble_eq_true rfl)⟩ dX6_seekRate_51 (st' := []) (σ' := q4) rfl rfl ?_
    refine g_iinc X dX6_seekRate_54 (kq := 5) rfl (congrArg (HAdd.hAdd _) ic_1) (by decide) (lv' := [(5, .int (z5 + (1 : Int32))), (0, .ref (be θ + 434)), (1, .ref (be θ + 428)), (2, .ref (be θ + x2)), (3, .int x3), (4, .int y4)]) rfl ?_
    refine g_goto (tgt := 40) X dX6_seekRate_57 (by decide) ?_
    have hk := inl_hk h hk
    exact g_sub (lv' := [(0, .ref (be θ + 434)), (1, .ref (be θ + 428)), (2, .ref (be θ + x2)), (3, .int x3), (4, .int y4), (5, .int (z5 + (1 : Int32)))]) [1, 2, 3, 4, 5, 0] rfl hk
set_option maxHeartbeats 4000000 in
set_option maxRecDepth 20000 in
theorem gl_Outlook_seekRate_L40 (X : Cx θ p s m args c cX6_seekRate 6 RX6) (hr : meth.sig.returnType = none) (hlk : meth.locks = false)  {x2 : Nat} {x3 : Int32} {y4 : Int32} {r : Mem} (h2 : kd x2 = 8) (n : Nat) (a : Mem × Int32) (b : Mem) (h : loopF (f_Outlook_seekRate_L40 x2 x3 y4) n a = some b) (hk : (fun w => GB θ p l e 5 s m args below meth c 6 (none, r) 60 [(0, .ref (be θ + 434)), (1, .ref (be θ + 428)), (2, .ref (be θ + x2)), (3, .int x3), (4, .int y4)] [] w) b) : (fun a => @Prod.casesOn (Mem) (Int32) (fun _ => Prop) a fun τ z5 => GB θ p l e 5 s m args below meth c 6 (none, r) 40 [(0, .ref (be θ + 434)), (1, .ref (be θ + 428)), (2, .ref (be θ + x2)), (3, .int x3), (4, .int y4), (5, .int z5)] [] τ) a :=
  loopF_by (P := (fun a => @Prod.casesOn (Mem) (Int32) (fun _ => Prop) a fun τ z5 => GB θ p l e 5 s m args below meth c 6 (none, r) 40 [(0, .ref (be θ + 434)), (1, .ref (be θ + 428)), (2, .ref (be θ + x2)), (3, .int x3), (4, .int y4), (5, .int z5)] [] τ)) (K := (fun w => GB θ p l e 5 s m args below meth c 6 (none, r) 60 [(0, .ref (be θ + 434)), (1, .ref (be θ + 428)), (2, .ref (be θ + x2)), (3, .int x3), (4, .int y4)] [] w)) (fun a x h hk => by obtain ⟨τ, z5⟩ := a; exact gs_Outlook_seekRate_L40 X hr hlk  h2 τ z5 x h hk) n a b h hk
set_option maxHeartbeats 4000000 in
set_option maxRecDepth 20000 in
theorem gs_Outlook_seekRate_L13 (X : Cx θ p s m args c cX6_seekRate 6 RX6) (hr : meth.sig.returnType = none) (hlk : meth.locks = false)  {x2 : Nat} {x3 : Int32} {r : Mem} (h2 : kd x2 = 8) (τ : Mem) (z4 : Int32) (x : (Mem × Int32) ⊕ (Mem)) (h : f_Outlook_seekRate_L13 x2 x3 (τ, z4) = some x) (hk : Sum.elim (fun a => @Prod.casesOn (Mem) (Int32) (fun _ => Prop) a fun τ z4 => GB θ p l e 5 s m args below meth c 6 (none, r) 13 [(0, .ref (be θ + 434)), (1, .ref (be θ + 428)), (2, .ref (be θ + x2)), (3, .int x3), (4, .int z4)] [] τ) (fun b => b = r) x) : GB θ p l e 5 s m args below meth c 6 (none, r) 13 [(0, .ref (be θ + 434)), (1, .ref (be θ + 428)), (2, .ref (be θ + x2)), (3, .int x3), (4, .int z4)] [] τ := by
  unfold f_Outlook_seekRate_L13 at h
  dsimp only at h
  refine g_iload X dX6_seekRate_13 4 rfl ?_
  refine g_bipush X dX6_seekRate_15 (v := (8 : Int32)) bp_8 ?_
  refine g_icmp_gt (tgt := 97) X dX6_seekRate_17 (by decide) (fun c1 => ?_) (fun c1 => ?_)
  · replace h := (if_pos c1).symm.trans h
    have hk := inr_hk h hk
    have hk : τ = r := hk
    subst hk
    exact g_vret X hr hlk dX6_seekRate_97 rfl
  · replace h := (if_neg c1).symm.trans h
    refine g_aload_n X dX6_seekRate_20 rfl 0 rfl ?_
    refine g_get X fl_RX6_12 dX6_seekRate_21 kd_434 (v := .ref (be θ + 435)) rfl ?_
    refine g_aload_n X dX6_seekRate_24 rfl 2 rfl ?_
    obtain ⟨q2, hq2, h⟩ := Option.bind_eq_some_iff.mp h
    refine g_cV X (c_State_copyFrom kd_435 h2 hq2) lk_RX6_29 my_X7_copyFrom (a := 435) (ci := 7) kd_435 (by decide) rfl (As := [.ref (be θ + x2)]) (rest := []) rfl rfl (Nat.le_of_ble_eq_true rfl) ⟨(Nat.le_of_ble_eq_true rfl), (Nat.le_of_ble_eq_true rfl)⟩ ⟨(Nat.le_of_ble_eq_true rfl), (Nat.le_of_ble_eq_true rfl)⟩ dX6_seekRate_25 (st' := []) (σ' := q2) rfl rfl ?_
    refine g_aload_n X dX6_seekRate_28 rfl 0 rfl ?_
    refine g_get X fl_RX6_12 dX6_seekRate_29 kd_434 (v := .ref (be θ + 435)) rfl ?_
    refine g_iload X dX6_seekRate_32 4 rfl ?_
    refine g_putI X fl_RX6_38 dX6_seekRate_34 kd_435 rfl rfl rfl ?_
    refine g_iconst X dX6_seekRate_37 (v := (0 : Int32)) ic_0 ?_
    refine g_istore X dX6_seekRate_38 (by decide) (lv' := [(5, .int (0 : Int32)), (0, .ref (be θ + 434)), (1, .ref (be θ + 428)), (2, .ref (be θ + x2)), (3, .int x3), (4, .int z4)]) rfl ?_
    obtain ⟨w5, hq5, h⟩ := Option.bind_eq_some_iff.mp h
    refine g_sub (lv' := [(0, .ref (be θ + 434)), (1, .ref (be θ + 428)), (2, .ref (be θ + x2)), (3, .int x3), (4, .int z4), (5, .int (0 : Int32))]) [1, 2, 3, 4, 5, 0] rfl (gl_Outlook_seekRate_L40 X hr hlk  h2  FU _ w5 hq5 ?_)
    refine g_aload_n X dX6_seekRate_60 rfl 0 rfl ?_
    refine g_get X fl_RX6_12 dX6_seekRate_61 kd_434 (v := .ref (be θ + 435)) rfl ?_
    refine g_get X fl_RX6_41 dX6_seekRate_64 kd_435 (v := .int (mI w5 435 13)) rfl ?_
    refine g_aload_n X dX6_seekRate_67 rfl 0 rfl ?_
    refine g_get X fl_RX6_26 dX6_seekRate_68 kd_434 (v := .int (mI w5 434 3)) rfl ?_
    refine g_icmp_le (tgt := 91) X dX6_seekRate_71 (by decide) (fun c6 => ?_) (fun c6 => ?_)
    · replace h := (if_pos c6).symm.trans h
      refine g_iinc X dX6_seekRate_91 (kq := 4) rfl (congrArg (HAdd.hAdd _) ic_1) (by decide) (lv' := [(4, .int (z4 + (1 : Int32))), (0, .ref (be θ + 434)), (1, .ref (be θ + 428)), (2, .ref (be θ + x2)), (3, .int x3)]) rfl ?_
      refine g_goto (tgt := 13) X dX6_seekRate_94 (by decide) ?_
      have hk := inl_hk h hk
      exact g_sub (lv' := [(0, .ref (be θ + 434)), (1, .ref (be θ + 428)), (2, .ref (be θ + x2)), (3, .int x3), (4, .int (z4 + (1 : Int32)))]) [1, 2, 3, 4, 0] rfl hk
    · replace h := (if_neg c6).symm.trans h
      refine g_aload_n X dX6_seekRate_74 rfl 0 rfl ?_
      refine g_iload X dX6_seekRate_75 4 rfl ?_
      refine g_putI X fl_RX6_22 dX6_seekRate_77 kd_434 rfl rfl rfl ?_
      refine g_aload_n X dX6_seekRate_80 rfl 0 rfl ?_
      refine g_aload_n X dX6_seekRate_81 rfl 0 rfl ?_
      refine g_get X fl_RX6_12 dX6_seekRate_82 kd_434 (v := .ref (be θ + 435)) rfl ?_
      refine g_get X fl_RX6_41 dX6_seekRate_85 kd_435 (v := .int (mI (sI w5 434 2 z4) 435 13)) rfl ?_
      refine g_putI X fl_RX6_26 dX6_seekRate_88 kd_434 rfl rfl rfl ?_
      refine g_iinc X dX6_seekRate_91 (kq := 4) rfl (congrArg (HAdd.hAdd _) ic_1) (by decide) (lv' := [(4, .int (z4 + (1 : Int32))), (0, .ref (be θ + 434)), (1, .ref (be θ + 428)), (2, .ref (be θ + x2)), (3, .int x3)]) rfl ?_
      refine g_goto (tgt := 13) X dX6_seekRate_94 (by decide) ?_
      have hk := inl_hk h hk
      exact g_sub (lv' := [(0, .ref (be θ + 434)), (1, .ref (be θ + 428)), (2, .ref (be θ + x2)), (3, .int x3), (4, .int (z4 + (1 : Int32)))]) [1, 2, 3, 4, 0] rfl hk
set_option maxHeartbeats 4000000 in
set_option maxRecDepth 20000 in
theorem gl_Outlook_seekRate_L13 (X : Cx θ p s m args c cX6_seekRate 6 RX6) (hr : meth.sig.returnType = none) (hlk : meth.locks = false)  {x2 : Nat} {x3 : Int32} {r : Mem} (h2 : kd x2 = 8) (n : Nat) (a : Mem × Int32) (b : Mem) (h : loopF (f_Outlook_seekRate_L13 x2 x3) n a = some b) (hk : (fun b => b = r) b) : (fun a => @Prod.casesOn (Mem) (Int32) (fun _ => Prop) a fun τ z4 => GB θ p l e 5 s m args below meth c 6 (none, r) 13 [(0, .ref (be θ + 434)), (1, .ref (be θ + 428)), (2, .ref (be θ + x2)), (3, .int x3), (4, .int z4)] [] τ) a :=
  loopF_by (P := (fun a => @Prod.casesOn (Mem) (Int32) (fun _ => Prop) a fun τ z4 => GB θ p l e 5 s m args below meth c 6 (none, r) 13 [(0, .ref (be θ + 434)), (1, .ref (be θ + 428)), (2, .ref (be θ + x2)), (3, .int x3), (4, .int z4)] [] τ)) (K := (fun b => b = r)) (fun a x h hk => by obtain ⟨τ, z4⟩ := a; exact gs_Outlook_seekRate_L13 X hr hlk  h2 τ z4 x h hk) n a b h hk
set_option maxHeartbeats 4000000 in
set_option maxRecDepth 20000 in
theorem g_Outlook_seekRate (X : Cx θ p s m args c cX6_seekRate 6 RX6) (hr : meth.sig.returnType = none) (hlk : meth.locks = false)  {σ : Mem} {x2 : Nat} {x3 : Int32} {r : Mem} (h2 : kd x2 = 8) (h : f_Outlook_seekRate σ x2 x3 = some r) : GB θ p l e 5 s m args below meth c 6 (none, r) 0 [(0, .ref (be θ + 434)), (1, .ref (be θ + 428)), (2, .ref (be θ + x2)), (3, .int x3)] [] σ := by
  unfold f_Outlook_seekRate at h
  refine g_aload_n X dX6_seekRate_0 rfl 0 rfl ?_
  refine g_iconst X dX6_seekRate_1 (v := (-1 : Int32)) ic_m1 ?_
  refine g_putI X fl_RX6_22 dX6_seekRate_2 kd_434 rfl rfl rfl ?_
  refine g_aload_n X dX6_seekRate_5 rfl 0 rfl ?_
  refine g_iconst X dX6_seekRate_6 (v := (-1 : Int32)) ic_m1 ?_
  refine g_putI X fl_RX6_26 dX6_seekRate_7 kd_434 rfl rfl rfl ?_
  refine g_iconst X dX6_seekRate_10 (v := (0 : Int32)) ic_0 ?_
  refine g_istore X dX6_seekRate_11 (by decide) (lv' := [(4, .int (0 : Int32)), (0, .ref (be θ + 434)), (1, .ref (be θ + 428)), (2, .ref (be θ + x2)), (3, .int x3)]) rfl ?_
  exact g_sub (lv' := [(0, .ref (be θ + 434)), (1, .ref (be θ + 428)), (2, .ref (be θ + x2)), (3, .int x3), (4, .int (0 : Int32))]) [1, 2, 3, 4, 0] rfl (gl_Outlook_seekRate_L13 X hr hlk  h2  FU _ _ h rfl)
set_option maxHeartbeats 4000000 in
set_option maxRecDepth 20000 in
theorem c_Outlook_seekRate {θ : Th} {l : Launch} {σ : Mem} {x2 : Nat} {x3 : Int32} {r : Mem} (h2 : kd x2 = 8) (h : f_Outlook_seekRate σ x2 x3 = some r) : Cn θ l yX6_seekRate cX6_seekRate 6 (none) 5 0 0 [.ref (be θ + 434), .ref (be θ + 428), .ref (be θ + x2), .int x3] σ (none, r) :=
  Cn.of (by decide) (Nat.le_of_ble_eq_true rfl) (fun p e s m below meth c X hr hlk => g_Outlook_seekRate X hr hlk h2 h)
theorem dX6_hoursToSell_0 : decode cX6_hoursToSell 0 = .ok (.aload_n 0, 1) := by decide +kernel
theorem dX6_hoursToSell_1 : decode cX6_hoursToSell 1 = .ok (.getfield 12, 3) := by decide +kernel
theorem dX6_hoursToSell_4 : decode cX6_hoursToSell 4 = .ok (.aload_n 2, 1) := by decide +kernel
theorem dX6_hoursToSell_5 : decode cX6_hoursToSell 5 = .ok (.invokevirtual 29, 3) := by decide +kernel
theorem dX6_hoursToSell_8 : decode cX6_hoursToSell 8 = .ok (.aload_n 0, 1) := by decide +kernel
theorem dX6_hoursToSell_9 : decode cX6_hoursToSell 9 = .ok (.getfield 12, 3) := by decide +kernel
theorem dX6_hoursToSell_12 : decode cX6_hoursToSell 12 = .ok (.getfield 48, 3) := by decide +kernel
theorem dX6_hoursToSell_15 : decode cX6_hoursToSell 15 = .ok (.iload_n 3, 1) := by decide +kernel
theorem dX6_hoursToSell_16 : decode cX6_hoursToSell 16 = .ok (.iload 4, 2) := by decide +kernel
theorem dX6_hoursToSell_18 : decode cX6_hoursToSell 18 = .ok (.iastore, 1) := by decide +kernel
theorem dX6_hoursToSell_19 : decode cX6_hoursToSell 19 = .ok (.iconst 1, 1) := by decide +kernel
theorem dX6_hoursToSell_20 : decode cX6_hoursToSell 20 = .ok (.istore 6, 2) := by decide +kernel
theorem dX6_hoursToSell_22 : decode cX6_hoursToSell 22 = .ok (.iload 6, 2) := by decide +kernel
theorem dX6_hoursToSell_24 : decode cX6_hoursToSell 24 = .ok (.iload 5, 2) := by decide +kernel
theorem dX6_hoursToSell_26 : decode cX6_hoursToSell 26 = .ok (.if_icmp .gt 33, 3) := by decide +kernel
theorem dX6_hoursToSell_29 : decode cX6_hoursToSell 29 = .ok (.aload_n 1, 1) := by decide +kernel
theorem dX6_hoursToSell_30 : decode cX6_hoursToSell 30 = .ok (.aload_n 0, 1) := by decide +kernel
theorem dX6_hoursToSell_31 : decode cX6_hoursToSell 31 = .ok (.getfield 12, 3) := by decide +kernel
theorem dX6_hoursToSell_34 : decode cX6_hoursToSell 34 = .ok (.invokevirtual 33, 3) := by decide +kernel
theorem dX6_hoursToSell_37 : decode cX6_hoursToSell 37 = .ok (.aload_n 0, 1) := by decide +kernel
theorem dX6_hoursToSell_38 : decode cX6_hoursToSell 38 = .ok (.getfield 12, 3) := by decide +kernel
theorem dX6_hoursToSell_41 : decode cX6_hoursToSell 41 = .ok (.getfield 52, 3) := by decide +kernel
theorem dX6_hoursToSell_44 : decode cX6_hoursToSell 44 = .ok (.iload_n 3, 1) := by decide +kernel
theorem dX6_hoursToSell_45 : decode cX6_hoursToSell 45 = .ok (.iaload, 1) := by decide +kernel
theorem dX6_hoursToSell_46 : decode cX6_hoursToSell 46 = .ok (.iconst 1, 1) := by decide +kernel
theorem dX6_hoursToSell_47 : decode cX6_hoursToSell 47 = .ok (.if_icmp .ne 6, 3) := by decide +kernel
theorem dX6_hoursToSell_50 : decode cX6_hoursToSell 50 = .ok (.iload 6, 2) := by decide +kernel
theorem dX6_hoursToSell_52 : decode cX6_hoursToSell 52 = .ok (.ireturn, 1) := by decide +kernel
theorem dX6_hoursToSell_53 : decode cX6_hoursToSell 53 = .ok (.iinc 6 1, 3) := by decide +kernel
theorem dX6_hoursToSell_56 : decode cX6_hoursToSell 56 = .ok (.goto (-34), 3) := by decide +kernel
theorem dX6_hoursToSell_59 : decode cX6_hoursToSell 59 = .ok (.iconst (-1), 1) := by decide +kernel
theorem dX6_hoursToSell_60 : decode cX6_hoursToSell 60 = .ok (.ireturn, 1) := by decide +kernel
def f_Outlook_hoursToSell_L22 (x2 : Nat) (x3 : Int32) (x4 : Int32) (x5 : Int32) (a : Mem × Int32) : Option ((Mem × Int32) ⊕ (Int32 × Mem)) :=
  @Prod.casesOn (Mem) (Int32) (fun _ => Option ((Mem × Int32) ⊕ (Int32 × Mem))) a fun τ z6 =>
  if x5 < z6 then
    some (.inr ((-1 : Int32), τ))
  else
    (f_Trade_passHour τ 435).bind fun q4 =>
    if inb x3 8 then
      if (mI q4 437 x3.toNatClampNeg) = (1 : Int32) then
        some (.inr (z6, q4))
      else
        some (.inl (q4, (z6 + (1 : Int32))))
    else none
def f_Outlook_hoursToSell (σ : Mem) (x2 : Nat) (x3 : Int32) (x4 : Int32) (x5 : Int32) : Option (Int32 × Mem) :=
  (f_State_copyFrom σ 435 x2).bind fun q1 =>
  if inb x3 8 then
    loopF (f_Outlook_hoursToSell_L22 x2 x3 x4 x5) FU ((sI q1 439 x3.toNatClampNeg x4), (1 : Int32))
  else none
set_option maxHeartbeats 4000000 in
set_option maxRecDepth 20000 in
theorem gs_Outlook_hoursToSell_L22 (X : Cx θ p s m args c cX6_hoursToSell 7 RX6) (hr : meth.sig.returnType = some .int) (hlk : meth.locks = false)  {x2 : Nat} {x3 : Int32} {x4 : Int32} {x5 : Int32} {r : Int32 × Mem} (h2 : kd x2 = 8) (τ : Mem) (z6 : Int32) (x : (Mem × Int32) ⊕ (Int32 × Mem)) (h : f_Outlook_hoursToSell_L22 x2 x3 x4 x5 (τ, z6) = some x) (hk : Sum.elim (fun a => @Prod.casesOn (Mem) (Int32) (fun _ => Prop) a fun τ z6 => GB θ p l e 5 s m args below meth c 7 (some (.int r.1), r.2) 22 [(0, .ref (be θ + 434)), (1, .ref (be θ + 428)), (2, .ref (be θ + x2)), (3, .int x3), (4, .int x4), (5, .int x5), (6, .int z6)] [] τ) (fun b => b = r) x) : GB θ p l e 5 s m args below meth c 7 (some (.int r.1), r.2) 22 [(0, .ref (be θ + 434)), (1, .ref (be θ + 428)), (2, .ref (be θ + x2)), (3, .int x3), (4, .int x4), (5, .int x5), (6, .int z6)] [] τ := by
  unfold f_Outlook_hoursToSell_L22 at h
  dsimp only at h
  refine g_iload X dX6_hoursToSell_22 6 rfl ?_
  refine g_iload X dX6_hoursToSell_24 5 rfl ?_
  refine g_icmp_gt (tgt := 59) X dX6_hoursToSell_26 (by decide) (fun c3 => ?_) (fun c3 => ?_)
  · replace h := (if_pos c3).symm.trans h
    refine g_iconst X dX6_hoursToSell_59 (v := (-1 : Int32)) ic_m1 ?_
    have hk := inr_hk h hk
    have hk : ((-1 : Int32), τ) = r := hk
    subst hk
    exact g_iret X hr hlk dX6_hoursToSell_60 rfl
  · replace h := (if_neg c3).symm.trans h
    refine g_aload_n X dX6_hoursToSell_29 rfl 1 rfl ?_
    refine g_aload_n X dX6_hoursToSell_30 rfl 0 rfl ?_
    refine g_get X fl_RX6_12 dX6_hoursToSell_31 kd_434 (v := .ref (be θ + 435)) rfl ?_
    obtain ⟨q4, hq4, h⟩ := Option.bind_eq_some_iff.mp h
    refine g_cV X (c_Trade_passHour kd_435 hq4) lk_RX6_33 my_X9_passHour (a := 428) (ci := 9) kd_428 (by decide) rfl (As := [.ref (be θ + 435)]) (rest := []) rfl rfl (Nat.le_of_ble_eq_true rfl) ⟨(Nat.le_of_ble_eq_true rfl), (Nat.le_of_ble_eq_true rfl)⟩ ⟨(Nat.le_of_ble_eq_true rfl), (Nat.le_of_ble_eq_true rfl)⟩ dX6_hoursToSell_34 (st' := []) (σ' := q4) rfl rfl ?_
    refine g_aload_n X dX6_hoursToSell_37 rfl 0 rfl ?_
    refine g_get X fl_RX6_12 dX6_hoursToSell_38 kd_434 (v := .ref (be θ + 435)) rfl ?_
    refine g_get X fl_RX6_52 dX6_hoursToSell_41 kd_435 (v := .ref (be θ + 437)) rfl ?_
    refine g_iload_n X dX6_hoursToSell_44 rfl 3 rfl ?_
    obtain ⟨g5, h⟩ := ite_some h
    refine g_iald X kd_437 ln_437 (inb_in g5) dX6_hoursToSell_45 ?_
    refine g_iconst X dX6_hoursToSell_46 (v := (1 : Int32)) ic_1 ?_
    refine g_icmp_ne (tgt := 53) X dX6_hoursToSell_47 (by decide) (fun c6 => ?_) (fun c6 => ?_)
    · replace h := (if_neg c6).symm.trans h
      refine g_iinc X dX6_hoursToSell_53 (kq := 6) rfl (congrArg (HAdd.hAdd _) ic_1) (by decide) (lv' := [(6, .int (z6 + (1 : Int32))), (0, .ref (be θ + 434)), (1, .ref (be θ + 428)), (2, .ref (be θ + x2)), (3, .int x3), (4, .int x4), (5, .int x5)]) rfl ?_
      refine g_goto (tgt := 22) X dX6_hoursToSell_56 (by decide) ?_
      have hk := inl_hk h hk
      exact g_sub (lv' := [(0, .ref (be θ + 434)), (1, .ref (be θ + 428)), (2, .ref (be θ + x2)), (3, .int x3), (4, .int x4), (5, .int x5), (6, .int (z6 + (1 : Int32)))]) [1, 2, 3, 4, 5, 6, 0] rfl hk
    · replace h := (if_pos c6).symm.trans h
      refine g_iload X dX6_hoursToSell_50 6 rfl ?_
      have hk := inr_hk h hk
      have hk : (z6, q4) = r := hk
      subst hk
      exact g_iret X hr hlk dX6_hoursToSell_52 rfl
set_option maxHeartbeats 4000000 in
set_option maxRecDepth 20000 in
theorem gl_Outlook_hoursToSell_L22 (X : Cx θ p s m args c cX6_hoursToSell 7 RX6) (hr : meth.sig.returnType = some .int) (hlk : meth.locks = false)  {x2 : Nat} {x3 : Int32} {x4 : Int32} {x5 : Int32} {r : Int32 × Mem} (h2 : kd x2 = 8) (n : Nat) (a : Mem × Int32) (b : Int32 × Mem) (h : loopF (f_Outlook_hoursToSell_L22 x2 x3 x4 x5) n a = some b) (hk : (fun b => b = r) b) : (fun a => @Prod.casesOn (Mem) (Int32) (fun _ => Prop) a fun τ z6 => GB θ p l e 5 s m args below meth c 7 (some (.int r.1), r.2) 22 [(0, .ref (be θ + 434)), (1, .ref (be θ + 428)), (2, .ref (be θ + x2)), (3, .int x3), (4, .int x4), (5, .int x5), (6, .int z6)] [] τ) a :=
  loopF_by (P := (fun a => @Prod.casesOn (Mem) (Int32) (fun _ => Prop) a fun τ z6 => GB θ p l e 5 s m args below meth c 7 (some (.int r.1), r.2) 22 [(0, .ref (be θ + 434)), (1, .ref (be θ + 428)), (2, .ref (be θ + x2)), (3, .int x3), (4, .int x4), (5, .int x5), (6, .int z6)] [] τ)) (K := (fun b => b = r)) (fun a x h hk => by obtain ⟨τ, z6⟩ := a; exact gs_Outlook_hoursToSell_L22 X hr hlk  h2 τ z6 x h hk) n a b h hk
set_option maxHeartbeats 4000000 in
set_option maxRecDepth 20000 in
theorem g_Outlook_hoursToSell (X : Cx θ p s m args c cX6_hoursToSell 7 RX6) (hr : meth.sig.returnType = some .int) (hlk : meth.locks = false)  {σ : Mem} {x2 : Nat} {x3 : Int32} {x4 : Int32} {x5 : Int32} {r : Int32 × Mem} (h2 : kd x2 = 8) (h : f_Outlook_hoursToSell σ x2 x3 x4 x5 = some r) : GB θ p l e 5 s m args below meth c 7 (some (.int r.1), r.2) 0 [(0, .ref (be θ + 434)), (1, .ref (be θ + 428)), (2, .ref (be θ + x2)), (3, .int x3), (4, .int x4), (5, .int x5)] [] σ := by
  unfold f_Outlook_hoursToSell at h
  refine g_aload_n X dX6_hoursToSell_0 rfl 0 rfl ?_
  refine g_get X fl_RX6_12 dX6_hoursToSell_1 kd_434 (v := .ref (be θ + 435)) rfl ?_
  refine g_aload_n X dX6_hoursToSell_4 rfl 2 rfl ?_
  obtain ⟨q1, hq1, h⟩ := Option.bind_eq_some_iff.mp h
  refine g_cV X (c_State_copyFrom kd_435 h2 hq1) lk_RX6_29 my_X7_copyFrom (a := 435) (ci := 7) kd_435 (by decide) rfl (As := [.ref (be θ + x2)]) (rest := []) rfl rfl (Nat.le_of_ble_eq_true rfl) ⟨(Nat.le_of_ble_eq_true rfl), (Nat.le_of_ble_eq_true rfl)⟩ ⟨(Nat.le_of_ble_eq_true rfl), (Nat.le_of_ble_eq_true rfl)⟩ dX6_hoursToSell_5 (st' := []) (σ' := q1) rfl rfl ?_
  refine g_aload_n X dX6_hoursToSell_8 rfl 0 rfl ?_
  refine g_get X fl_RX6_12 dX6_hoursToSell_9 kd_434 (v := .ref (be θ + 435)) rfl ?_
  refine g_get X fl_RX6_48 dX6_hoursToSell_12 kd_435 (v := .ref (be θ + 439)) rfl ?_
  refine g_iload_n X dX6_hoursToSell_15 rfl 3 rfl ?_
  refine g_iload X dX6_hoursToSell_16 4 rfl ?_
  obtain ⟨g2, h⟩ := ite_some h
  refine g_iast X kd_439 ln_439 (inb_in g2) dX6_hoursToSell_18 ?_
  refine g_iconst X dX6_hoursToSell_19 (v := (1 : Int32)) ic_1 ?_
  refine g_istore X dX6_hoursToSell_20 (by decide) (lv' := [(6, .int (1 : Int32)), (0, .ref (be θ + 434)), (1, .ref (be θ + 428)), (2, .ref (be θ + x2)), (3, .int x3), (4, .int x4), (5, .int x5)]) rfl ?_
  exact g_sub (lv' := [(0, .ref (be θ + 434)), (1, .ref (be θ + 428)), (2, .ref (be θ + x2)), (3, .int x3), (4, .int x4), (5, .int x5), (6, .int (1 : Int32))]) [1, 2, 3, 4, 5, 6, 0] rfl (gl_Outlook_hoursToSell_L22 X hr hlk  h2  FU _ _ h rfl)
set_option maxHeartbeats 4000000 in
set_option maxRecDepth 20000 in
theorem c_Outlook_hoursToSell {θ : Th} {l : Launch} {σ : Mem} {x2 : Nat} {x3 : Int32} {x4 : Int32} {x5 : Int32} {r : Int32 × Mem} (h2 : kd x2 = 8) (h : f_Outlook_hoursToSell σ x2 x3 x4 x5 = some r) : Cn θ l yX6_hoursToSell cX6_hoursToSell 7 (some .int) 5 0 0 [.ref (be θ + 434), .ref (be θ + 428), .ref (be θ + x2), .int x3, .int x4, .int x5] σ (some (.int r.1), r.2) :=
  Cn.of (by decide) (Nat.le_of_ble_eq_true rfl) (fun p e s m below meth c X hr hlk => g_Outlook_hoursToSell X hr hlk h2 h)
theorem dX6_seekWeight_0 : decode cX6_seekWeight 0 = .ok (.aload_n 0, 1) := by decide +kernel
theorem dX6_seekWeight_1 : decode cX6_seekWeight 1 = .ok (.iconst (-1), 1) := by decide +kernel
theorem dX6_seekWeight_2 : decode cX6_seekWeight 2 = .ok (.putfield 22, 3) := by decide +kernel
theorem dX6_seekWeight_5 : decode cX6_seekWeight 5 = .ok (.aload_n 0, 1) := by decide +kernel
theorem dX6_seekWeight_6 : decode cX6_seekWeight 6 = .ok (.iconst (-1), 1) := by decide +kernel
theorem dX6_seekWeight_7 : decode cX6_seekWeight 7 = .ok (.putfield 26, 3) := by decide +kernel
theorem dX6_seekWeight_10 : decode cX6_seekWeight 10 = .ok (.bipush 40, 2) := by decide +kernel
theorem dX6_seekWeight_12 : decode cX6_seekWeight 12 = .ok (.istore 4, 2) := by decide +kernel
theorem dX6_seekWeight_14 : decode cX6_seekWeight 14 = .ok (.iconst 0, 1) := by decide +kernel
theorem dX6_seekWeight_15 : decode cX6_seekWeight 15 = .ok (.istore 5, 2) := by decide +kernel
theorem dX6_seekWeight_17 : decode cX6_seekWeight 17 = .ok (.iload 5, 2) := by decide +kernel
theorem dX6_seekWeight_19 : decode cX6_seekWeight 19 = .ok (.bipush 9, 2) := by decide +kernel
theorem dX6_seekWeight_21 : decode cX6_seekWeight 21 = .ok (.if_icmp .gt 46, 3) := by decide +kernel
theorem dX6_seekWeight_24 : decode cX6_seekWeight 24 = .ok (.aload_n 0, 1) := by decide +kernel
theorem dX6_seekWeight_25 : decode cX6_seekWeight 25 = .ok (.aload_n 1, 1) := by decide +kernel
theorem dX6_seekWeight_26 : decode cX6_seekWeight 26 = .ok (.aload_n 2, 1) := by decide +kernel
theorem dX6_seekWeight_27 : decode cX6_seekWeight 27 = .ok (.iload_n 3, 1) := by decide +kernel
theorem dX6_seekWeight_28 : decode cX6_seekWeight 28 = .ok (.iload 5, 2) := by decide +kernel
theorem dX6_seekWeight_30 : decode cX6_seekWeight 30 = .ok (.iload 4, 2) := by decide +kernel
theorem dX6_seekWeight_32 : decode cX6_seekWeight 32 = .ok (.invokevirtual 44, 3) := by decide +kernel
theorem dX6_seekWeight_35 : decode cX6_seekWeight 35 = .ok (.istore 6, 2) := by decide +kernel
theorem dX6_seekWeight_37 : decode cX6_seekWeight 37 = .ok (.iload 6, 2) := by decide +kernel
theorem dX6_seekWeight_39 : decode cX6_seekWeight 39 = .ok (.iconst (-1), 1) := by decide +kernel
theorem dX6_seekWeight_40 : decode cX6_seekWeight 40 = .ok (.if_icmp .eq 21, 3) := by decide +kernel
theorem dX6_seekWeight_43 : decode cX6_seekWeight 43 = .ok (.aload_n 0, 1) := by decide +kernel
theorem dX6_seekWeight_44 : decode cX6_seekWeight 44 = .ok (.iload 5, 2) := by decide +kernel
theorem dX6_seekWeight_46 : decode cX6_seekWeight 46 = .ok (.putfield 22, 3) := by decide +kernel
theorem dX6_seekWeight_49 : decode cX6_seekWeight 49 = .ok (.aload_n 0, 1) := by decide +kernel
theorem dX6_seekWeight_50 : decode cX6_seekWeight 50 = .ok (.iload 6, 2) := by decide +kernel
theorem dX6_seekWeight_52 : decode cX6_seekWeight 52 = .ok (.putfield 26, 3) := by decide +kernel
theorem dX6_seekWeight_55 : decode cX6_seekWeight 55 = .ok (.iload 6, 2) := by decide +kernel
theorem dX6_seekWeight_57 : decode cX6_seekWeight 57 = .ok (.iconst 1, 1) := by decide +kernel
theorem dX6_seekWeight_58 : decode cX6_seekWeight 58 = .ok (.isub, 1) := by decide +kernel
theorem dX6_seekWeight_59 : decode cX6_seekWeight 59 = .ok (.istore 4, 2) := by decide +kernel
theorem dX6_seekWeight_61 : decode cX6_seekWeight 61 = .ok (.iinc 5 1, 3) := by decide +kernel
theorem dX6_seekWeight_64 : decode cX6_seekWeight 64 = .ok (.goto (-47), 3) := by decide +kernel
theorem dX6_seekWeight_67 : decode cX6_seekWeight 67 = .ok (.return_, 1) := by decide +kernel
def f_Outlook_seekWeight_L17 (x2 : Nat) (x3 : Int32) (a : Mem × Int32 × Int32) : Option ((Mem × Int32 × Int32) ⊕ (Mem)) :=
  @Prod.casesOn (Mem) (Int32 × Int32) (fun _ => Option ((Mem × Int32 × Int32) ⊕ (Mem))) a fun τ b0 =>
  @Prod.casesOn (Int32) (Int32) (fun _ => Option ((Mem × Int32 × Int32) ⊕ (Mem))) b0 fun z4 z5 =>
  if (9 : Int32) < z5 then
    some (.inr τ)
  else
    (f_Outlook_hoursToSell τ x2 x3 z5 z4).bind fun q2 =>
    if q2.1 = (-1 : Int32) then
      some (.inl (q2.2, z4, (z5 + (1 : Int32))))
    else
      some (.inl ((sI (sI q2.2 434 2 z5) 434 3 q2.1), (q2.1 - (1 : Int32)), (z5 + (1 : Int32))))
def f_Outlook_seekWeight (σ : Mem) (x2 : Nat) (x3 : Int32) : Option (Mem) :=
  loopF (f_Outlook_seekWeight_L17 x2 x3) FU ((sI (sI σ 434 2 (-1 : Int32)) 434 3 (-1 : Int32)), (40 : Int32), (0 : Int32))
set_option maxHeartbeats 4000000 in
set_option maxRecDepth 20000 in
theorem gs_Outlook_seekWeight_L17 (X : Cx θ p s m args c cX6_seekWeight 7 RX6) (hr : meth.sig.returnType = none) (hlk : meth.locks = false)  {x2 : Nat} {x3 : Int32} {r : Mem} (h2 : kd x2 = 8) (τ : Mem) (z4 : Int32) (z5 : Int32) (x : (Mem × Int32 × Int32) ⊕ (Mem)) (h : f_Outlook_seekWeight_L17 x2 x3 (τ, z4, z5) = some x) (hk : Sum.elim (fun a => @Prod.casesOn (Mem) (Int32 × Int32) (fun _ => Prop) a fun τ b0 => @Prod.casesOn (Int32) (Int32) (fun _ => Prop) b0 fun z4 z5 => GB θ p l e 6 s m args below meth c 7 (none, r) 17 [(0, .ref (be θ + 434)), (1, .ref (be θ + 428)), (2, .ref (be θ + x2)), (3, .int x3), (4, .int z4), (5, .int z5)] [] τ) (fun b => b = r) x) : GB θ p l e 6 s m args below meth c 7 (none, r) 17 [(0, .ref (be θ + 434)), (1, .ref (be θ + 428)), (2, .ref (be θ + x2)), (3, .int x3), (4, .int z4), (5, .int z5)] [] τ := by
  unfold f_Outlook_seekWeight_L17 at h
  dsimp only at h
  refine g_iload X dX6_seekWeight_17 5 rfl ?_
  refine g_bipush X dX6_seekWeight_19 (v := (9 : Int32)) bp_9 ?_
  refine g_icmp_gt (tgt := 67) X dX6_seekWeight_21 (by decide) (fun c1 => ?_) (fun c1 => ?_)
  · replace h := (if_pos c1).symm.trans h
    have hk := inr_hk h hk
    have hk : τ = r := hk
    subst hk
    exact g_vret X hr hlk dX6_seekWeight_67 rfl
  · replace h := (if_neg c1).symm.trans h
    refine g_aload_n X dX6_seekWeight_24 rfl 0 rfl ?_
    refine g_aload_n X dX6_seekWeight_25 rfl 1 rfl ?_
    refine g_aload_n X dX6_seekWeight_26 rfl 2 rfl ?_
    refine g_iload_n X dX6_seekWeight_27 rfl 3 rfl ?_
    refine g_iload X dX6_seekWeight_28 5 rfl ?_
    refine g_iload X dX6_seekWeight_30 4 rfl ?_
    obtain ⟨q2, hq2, h⟩ := Option.bind_eq_some_iff.mp h
    refine g_cV X (c_Outlook_hoursToSell h2 hq2) lk_RX6_44 my_X6_hoursToSell (a := 434) (ci := 6) kd_434 (by decide) rfl (As := [.ref (be θ + 428), .ref (be θ + x2), .int x3, .int z5, .int z4]) (rest := []) rfl rfl (Nat.le_of_ble_eq_true rfl) ⟨(Nat.le_of_ble_eq_true rfl), (Nat.le_of_ble_eq_true rfl)⟩ ⟨(Nat.le_of_ble_eq_true rfl), (Nat.le_of_ble_eq_true rfl)⟩ dX6_seekWeight_32 (st' := [.int q2.1]) (σ' := q2.2) rfl rfl ?_
    refine g_istore X dX6_seekWeight_35 (by decide) (lv' := [(6, .int q2.1), (0, .ref (be θ + 434)), (1, .ref (be θ + 428)), (2, .ref (be θ + x2)), (3, .int x3), (4, .int z4), (5, .int z5)]) rfl ?_
    refine g_iload X dX6_seekWeight_37 0 rfl ?_
    refine g_iconst X dX6_seekWeight_39 (v := (-1 : Int32)) ic_m1 ?_
    refine g_icmp_eq (tgt := 61) X dX6_seekWeight_40 (by decide) (fun c3 => ?_) (fun c3 => ?_)
    · replace h := (if_pos c3).symm.trans h
      refine g_iinc X dX6_seekWeight_61 (kq := 6) rfl (congrArg (HAdd.hAdd _) ic_1) (by decide) (lv' := [(5, .int (z5 + (1 : Int32))), (6, .int q2.1), (0, .ref (be θ + 434)), (1, .ref (be θ + 428)), (2, .ref (be θ + x2)), (3, .int x3), (4, .int z4)]) rfl ?_
      refine g_goto (tgt := 17) X dX6_seekWeight_64 (by decide) ?_
      have hk := inl_hk h hk
      exact g_sub (lv' := [(0, .ref (be θ + 434)), (1, .ref (be θ + 428)), (2, .ref (be θ + x2)), (3, .int x3), (4, .int z4), (5, .int (z5 + (1 : Int32)))]) [2, 3, 4, 5, 6, 0] rfl hk
    · replace h := (if_neg c3).symm.trans h
      refine g_aload_n X dX6_seekWeight_43 rfl 1 rfl ?_
      refine g_iload X dX6_seekWeight_44 6 rfl ?_
      refine g_putI X fl_RX6_22 dX6_seekWeight_46 kd_434 rfl rfl rfl ?_
      refine g_aload_n X dX6_seekWeight_49 rfl 1 rfl ?_
      refine g_iload X dX6_seekWeight_50 0 rfl ?_
      refine g_putI X fl_RX6_26 dX6_seekWeight_52 kd_434 rfl rfl rfl ?_
      refine g_iload X dX6_seekWeight_55 0 rfl ?_
      refine g_iconst X dX6_seekWeight_57 (v := (1 : Int32)) ic_1 ?_
      refine g_isub X dX6_seekWeight_58 ?_
      refine g_istore X dX6_seekWeight_59 (by decide) (lv' := [(4, .int (q2.1 - (1 : Int32))), (6, .int q2.1), (0, .ref (be θ + 434)), (1, .ref (be θ + 428)), (2, .ref (be θ + x2)), (3, .int x3), (5, .int z5)]) rfl ?_
      refine g_iinc X dX6_seekWeight_61 (kq := 6) rfl (congrArg (HAdd.hAdd _) ic_1) (by decide) (lv' := [(5, .int (z5 + (1 : Int32))), (4, .int (q2.1 - (1 : Int32))), (6, .int q2.1), (0, .ref (be θ + 434)), (1, .ref (be θ + 428)), (2, .ref (be θ + x2)), (3, .int x3)]) rfl ?_
      refine g_goto (tgt := 17) X dX6_seekWeight_64 (by decide) ?_
      have hk := inl_hk h hk
      exact g_sub (lv' := [(0, .ref (be θ + 434)), (1, .ref (be θ + 428)), (2, .ref (be θ + x2)), (3, .int x3), (4, .int (q2.1 - (1 : Int32))), (5, .int (z5 + (1 : Int32)))]) [3, 4, 5, 6, 1, 0] rfl hk
set_option maxHeartbeats 4000000 in
set_option maxRecDepth 20000 in
theorem gl_Outlook_seekWeight_L17 (X : Cx θ p s m args c cX6_seekWeight 7 RX6) (hr : meth.sig.returnType = none) (hlk : meth.locks = false)  {x2 : Nat} {x3 : Int32} {r : Mem} (h2 : kd x2 = 8) (n : Nat) (a : Mem × Int32 × Int32) (b : Mem) (h : loopF (f_Outlook_seekWeight_L17 x2 x3) n a = some b) (hk : (fun b => b = r) b) : (fun a => @Prod.casesOn (Mem) (Int32 × Int32) (fun _ => Prop) a fun τ b0 => @Prod.casesOn (Int32) (Int32) (fun _ => Prop) b0 fun z4 z5 => GB θ p l e 6 s m args below meth c 7 (none, r) 17 [(0, .ref (be θ + 434)), (1, .ref (be θ + 428)), (2, .ref (be θ + x2)), (3, .int x3), (4, .int z4), (5, .int z5)] [] τ) a :=
  loopF_by (P := (fun a => @Prod.casesOn (Mem) (Int32 × Int32) (fun _ => Prop) a fun τ b0 => @Prod.casesOn (Int32) (Int32) (fun _ => Prop) b0 fun z4 z5 => GB θ p l e 6 s m args below meth c 7 (none, r) 17 [(0, .ref (be θ + 434)), (1, .ref (be θ + 428)), (2, .ref (be θ + x2)), (3, .int x3), (4, .int z4), (5, .int z5)] [] τ)) (K := (fun b => b = r)) (fun a x h hk => by obtain ⟨τ, z4, z5⟩ := a; exact gs_Outlook_seekWeight_L17 X hr hlk  h2 τ z4 z5 x h hk) n a b h hk
set_option maxHeartbeats 4000000 in
set_option maxRecDepth 20000 in
theorem g_Outlook_seekWeight (X : Cx θ p s m args c cX6_seekWeight 7 RX6) (hr : meth.sig.returnType = none) (hlk : meth.locks = false)  {σ : Mem} {x2 : Nat} {x3 : Int32} {r : Mem} (h2 : kd x2 = 8) (h : f_Outlook_seekWeight σ x2 x3 = some r) : GB θ p l e 6 s m args below meth c 7 (none, r) 0 [(0, .ref (be θ + 434)), (1, .ref (be θ + 428)), (2, .ref (be θ + x2)), (3, .int x3)] [] σ := by
  unfold f_Outlook_seekWeight at h
  refine g_aload_n X dX6_seekWeight_0 rfl 0 rfl ?_
  refine g_iconst X dX6_seekWeight_1 (v := (-1 : Int32)) ic_m1 ?_
  refine g_putI X fl_RX6_22 dX6_seekWeight_2 kd_434 rfl rfl rfl ?_
  refine g_aload_n X dX6_seekWeight_5 rfl 0 rfl ?_
  refine g_iconst X dX6_seekWeight_6 (v := (-1 : Int32)) ic_m1 ?_
  refine g_putI X fl_RX6_26 dX6_seekWeight_7 kd_434 rfl rfl rfl ?_
  refine g_bipush X dX6_seekWeight_10 (v := (40 : Int32)) bp_40 ?_
  refine g_istore X dX6_seekWeight_12 (by decide) (lv' := [(4, .int (40 : Int32)), (0, .ref (be θ + 434)), (1, .ref (be θ + 428)), (2, .ref (be θ + x2)), (3, .int x3)]) rfl ?_
  refine g_iconst X dX6_seekWeight_14 (v := (0 : Int32)) ic_0 ?_
  refine g_istore X dX6_seekWeight_15 (by decide) (lv' := [(5, .int (0 : Int32)), (4, .int (40 : Int32)), (0, .ref (be θ + 434)), (1, .ref (be θ + 428)), (2, .ref (be θ + x2)), (3, .int x3)]) rfl ?_
  exact g_sub (lv' := [(0, .ref (be θ + 434)), (1, .ref (be θ + 428)), (2, .ref (be θ + x2)), (3, .int x3), (4, .int (40 : Int32)), (5, .int (0 : Int32))]) [2, 3, 4, 5, 1, 0] rfl (gl_Outlook_seekWeight_L17 X hr hlk  h2  FU _ _ h rfl)
set_option maxHeartbeats 4000000 in
set_option maxRecDepth 20000 in
theorem c_Outlook_seekWeight {θ : Th} {l : Launch} {σ : Mem} {x2 : Nat} {x3 : Int32} {r : Mem} (h2 : kd x2 = 8) (h : f_Outlook_seekWeight σ x2 x3 = some r) : Cn θ l yX6_seekWeight cX6_seekWeight 7 (none) 6 0 0 [.ref (be θ + 434), .ref (be θ + 428), .ref (be θ + x2), .int x3] σ (none, r) :=
  Cn.of (by decide) (Nat.le_of_ble_eq_true rfl) (fun p e s m below meth c X hr hlk => g_Outlook_seekWeight X hr hlk h2 h)
theorem dX6_partsReaching_0 : decode cX6_partsReaching 0 = .ok (.iload_n 3, 1) := by decide +kernel
theorem dX6_partsReaching_1 : decode cX6_partsReaching 1 = .ok (.ifCond .le 12, 3) := by decide +kernel
theorem dX6_partsReaching_4 : decode cX6_partsReaching 4 = .ok (.iload_n 3, 1) := by decide +kernel
theorem dX6_partsReaching_5 : decode cX6_partsReaching 5 = .ok (.aload_n 0, 1) := by decide +kernel
theorem dX6_partsReaching_6 : decode cX6_partsReaching 6 = .ok (.getfield 18, 3) := by decide +kernel
theorem dX6_partsReaching_9 : decode cX6_partsReaching 9 = .ok (.arraylength, 1) := by decide +kernel
theorem dX6_partsReaching_10 : decode cX6_partsReaching 10 = .ok (.if_icmp .lt 24, 3) := by decide +kernel
theorem dX6_partsReaching_13 : decode cX6_partsReaching 13 = .ok (.aload_n 2, 1) := by decide +kernel
theorem dX6_partsReaching_14 : decode cX6_partsReaching 14 = .ok (.getfield 41, 3) := by decide +kernel
theorem dX6_partsReaching_17 : decode cX6_partsReaching 17 = .ok (.aload_n 2, 1) := by decide +kernel
theorem dX6_partsReaching_18 : decode cX6_partsReaching 18 = .ok (.invokevirtual 55, 3) := by decide +kernel
theorem dX6_partsReaching_21 : decode cX6_partsReaching 21 = .ok (.iadd, 1) := by decide +kernel
theorem dX6_partsReaching_22 : decode cX6_partsReaching 22 = .ok (.iload 5, 2) := by decide +kernel
theorem dX6_partsReaching_24 : decode cX6_partsReaching 24 = .ok (.if_icmp .lt 8, 3) := by decide +kernel
theorem dX6_partsReaching_27 : decode cX6_partsReaching 27 = .ok (.iload 4, 2) := by decide +kernel
theorem dX6_partsReaching_29 : decode cX6_partsReaching 29 = .ok (.goto 4, 3) := by decide +kernel
theorem dX6_partsReaching_32 : decode cX6_partsReaching 32 = .ok (.iconst 0, 1) := by decide +kernel
theorem dX6_partsReaching_33 : decode cX6_partsReaching 33 = .ok (.ireturn, 1) := by decide +kernel
theorem dX6_partsReaching_34 : decode cX6_partsReaching 34 = .ok (.aload_n 0, 1) := by decide +kernel
theorem dX6_partsReaching_35 : decode cX6_partsReaching 35 = .ok (.getfield 18, 3) := by decide +kernel
theorem dX6_partsReaching_38 : decode cX6_partsReaching 38 = .ok (.iload_n 3, 1) := by decide +kernel
theorem dX6_partsReaching_39 : decode cX6_partsReaching 39 = .ok (.aaload, 1) := by decide +kernel
theorem dX6_partsReaching_40 : decode cX6_partsReaching 40 = .ok (.astore 7, 2) := by decide +kernel
theorem dX6_partsReaching_42 : decode cX6_partsReaching 42 = .ok (.iload 4, 2) := by decide +kernel
theorem dX6_partsReaching_44 : decode cX6_partsReaching 44 = .ok (.i2l, 1) := by decide +kernel
theorem dX6_partsReaching_45 : decode cX6_partsReaching 45 = .ok (.iload 6, 2) := by decide +kernel
theorem dX6_partsReaching_47 : decode cX6_partsReaching 47 = .ok (.i2l, 1) := by decide +kernel
theorem dX6_partsReaching_48 : decode cX6_partsReaching 48 = .ok (.lmul, 1) := by decide +kernel
theorem dX6_partsReaching_49 : decode cX6_partsReaching 49 = .ok (.ldc2_w 59, 3) := by decide +kernel
theorem dX6_partsReaching_52 : decode cX6_partsReaching 52 = .ok (.ldiv, 1) := by decide +kernel
theorem dX6_partsReaching_53 : decode cX6_partsReaching 53 = .ok (.l2i, 1) := by decide +kernel
theorem dX6_partsReaching_54 : decode cX6_partsReaching 54 = .ok (.istore 8, 2) := by decide +kernel
theorem dX6_partsReaching_56 : decode cX6_partsReaching 56 = .ok (.iconst 0, 1) := by decide +kernel
theorem dX6_partsReaching_57 : decode cX6_partsReaching 57 = .ok (.istore 9, 2) := by decide +kernel
theorem dX6_partsReaching_59 : decode cX6_partsReaching 59 = .ok (.iload 8, 2) := by decide +kernel
theorem dX6_partsReaching_61 : decode cX6_partsReaching 61 = .ok (.ifCond .le 52, 3) := by decide +kernel
theorem dX6_partsReaching_64 : decode cX6_partsReaching 64 = .ok (.aload 7, 2) := by decide +kernel
theorem dX6_partsReaching_66 : decode cX6_partsReaching 66 = .ok (.aload_n 2, 1) := by decide +kernel
theorem dX6_partsReaching_67 : decode cX6_partsReaching 67 = .ok (.invokevirtual 29, 3) := by decide +kernel
theorem dX6_partsReaching_70 : decode cX6_partsReaching 70 = .ok (.aload 7, 2) := by decide +kernel
theorem dX6_partsReaching_72 : decode cX6_partsReaching 72 = .ok (.bipush 15, 2) := by decide +kernel
theorem dX6_partsReaching_74 : decode cX6_partsReaching 74 = .ok (.putfield 61, 3) := by decide +kernel
theorem dX6_partsReaching_77 : decode cX6_partsReaching 77 = .ok (.aload_n 1, 1) := by decide +kernel
theorem dX6_partsReaching_78 : decode cX6_partsReaching 78 = .ok (.aload 7, 2) := by decide +kernel
theorem dX6_partsReaching_80 : decode cX6_partsReaching 80 = .ok (.invokevirtual 33, 3) := by decide +kernel
theorem dX6_partsReaching_83 : decode cX6_partsReaching 83 = .ok (.aload 7, 2) := by decide +kernel
theorem dX6_partsReaching_85 : decode cX6_partsReaching 85 = .ok (.aload_n 2, 1) := by decide +kernel
theorem dX6_partsReaching_86 : decode cX6_partsReaching 86 = .ok (.getfield 61, 3) := by decide +kernel
theorem dX6_partsReaching_89 : decode cX6_partsReaching 89 = .ok (.putfield 61, 3) := by decide +kernel
theorem dX6_partsReaching_92 : decode cX6_partsReaching 92 = .ok (.iload 9, 2) := by decide +kernel
theorem dX6_partsReaching_94 : decode cX6_partsReaching 94 = .ok (.aload_n 0, 1) := by decide +kernel
theorem dX6_partsReaching_95 : decode cX6_partsReaching 95 = .ok (.aload_n 1, 1) := by decide +kernel
theorem dX6_partsReaching_96 : decode cX6_partsReaching 96 = .ok (.aload 7, 2) := by decide +kernel
theorem dX6_partsReaching_98 : decode cX6_partsReaching 98 = .ok (.iload_n 3, 1) := by decide +kernel
theorem dX6_partsReaching_99 : decode cX6_partsReaching 99 = .ok (.iconst 1, 1) := by decide +kernel
theorem dX6_partsReaching_100 : decode cX6_partsReaching 100 = .ok (.isub, 1) := by decide +kernel
theorem dX6_partsReaching_101 : decode cX6_partsReaching 101 = .ok (.iload 8, 2) := by decide +kernel
theorem dX6_partsReaching_103 : decode cX6_partsReaching 103 = .ok (.iload 5, 2) := by decide +kernel
theorem dX6_partsReaching_105 : decode cX6_partsReaching 105 = .ok (.iload 6, 2) := by decide +kernel
theorem dX6_partsReaching_107 : decode cX6_partsReaching 107 = .ok (.invokevirtual 64, 3) := by decide +kernel
theorem dX6_partsReaching_110 : decode cX6_partsReaching 110 = .ok (.iadd, 1) := by decide +kernel
theorem dX6_partsReaching_111 : decode cX6_partsReaching 111 = .ok (.istore 9, 2) := by decide +kernel
theorem dX6_partsReaching_113 : decode cX6_partsReaching 113 = .ok (.iload 4, 2) := by decide +kernel
theorem dX6_partsReaching_115 : decode cX6_partsReaching 115 = .ok (.iload 8, 2) := by decide +kernel
theorem dX6_partsReaching_117 : decode cX6_partsReaching 117 = .ok (.if_icmp .le 39, 3) := by decide +kernel
theorem dX6_partsReaching_120 : decode cX6_partsReaching 120 = .ok (.aload 7, 2) := by decide +kernel
theorem dX6_partsReaching_122 : decode cX6_partsReaching 122 = .ok (.aload_n 2, 1) := by decide +kernel
theorem dX6_partsReaching_123 : decode cX6_partsReaching 123 = .ok (.invokevirtual 29, 3) := by decide +kernel
theorem dX6_partsReaching_126 : decode cX6_partsReaching 126 = .ok (.aload_n 1, 1) := by decide +kernel
theorem dX6_partsReaching_127 : decode cX6_partsReaching 127 = .ok (.aload 7, 2) := by decide +kernel
theorem dX6_partsReaching_129 : decode cX6_partsReaching 129 = .ok (.invokevirtual 33, 3) := by decide +kernel
theorem dX6_partsReaching_132 : decode cX6_partsReaching 132 = .ok (.iload 9, 2) := by decide +kernel
theorem dX6_partsReaching_134 : decode cX6_partsReaching 134 = .ok (.aload_n 0, 1) := by decide +kernel
theorem dX6_partsReaching_135 : decode cX6_partsReaching 135 = .ok (.aload_n 1, 1) := by decide +kernel
theorem dX6_partsReaching_136 : decode cX6_partsReaching 136 = .ok (.aload 7, 2) := by decide +kernel
theorem dX6_partsReaching_138 : decode cX6_partsReaching 138 = .ok (.iload_n 3, 1) := by decide +kernel
theorem dX6_partsReaching_139 : decode cX6_partsReaching 139 = .ok (.iconst 1, 1) := by decide +kernel
theorem dX6_partsReaching_140 : decode cX6_partsReaching 140 = .ok (.isub, 1) := by decide +kernel
theorem dX6_partsReaching_141 : decode cX6_partsReaching 141 = .ok (.iload 4, 2) := by decide +kernel
theorem dX6_partsReaching_143 : decode cX6_partsReaching 143 = .ok (.iload 8, 2) := by decide +kernel
theorem dX6_partsReaching_145 : decode cX6_partsReaching 145 = .ok (.isub, 1) := by decide +kernel
theorem dX6_partsReaching_146 : decode cX6_partsReaching 146 = .ok (.iload 5, 2) := by decide +kernel
theorem dX6_partsReaching_148 : decode cX6_partsReaching 148 = .ok (.iload 6, 2) := by decide +kernel
theorem dX6_partsReaching_150 : decode cX6_partsReaching 150 = .ok (.invokevirtual 64, 3) := by decide +kernel
theorem dX6_partsReaching_153 : decode cX6_partsReaching 153 = .ok (.iadd, 1) := by decide +kernel
theorem dX6_partsReaching_154 : decode cX6_partsReaching 154 = .ok (.istore 9, 2) := by decide +kernel
theorem dX6_partsReaching_156 : decode cX6_partsReaching 156 = .ok (.iload 9, 2) := by decide +kernel
theorem dX6_partsReaching_158 : decode cX6_partsReaching 158 = .ok (.ireturn, 1) := by decide +kernel
def f_Outlook_partsReaching_J13 (rc : Nat → Mem → Nat → Int32 → Int32 → Int32 → Int32 → Option (Int32 × Mem)) (σ : Mem) (x2 : Nat) (x3 : Int32) (x4 : Int32) (x5 : Int32) (x6 : Int32) : Option (Int32 × Mem) :=
  (f_State_dueOfAll σ x2).bind fun q2 =>
  if ((mI σ x2 13) + q2) < x5 then
    some ((0 : Int32), σ)
  else
    some (x4, σ)
def f_Outlook_partsReaching_J113 (rc : Nat → Mem → Nat → Int32 → Int32 → Int32 → Int32 → Option (Int32 × Mem)) (σ : Mem) (x2 : Nat) (x3 : Int32) (x4 : Int32) (x5 : Int32) (x6 : Int32) (y7 : Nat) (y8 : Int32) (y9 : Int32) : Option (Int32 × Mem) :=
  if x4 ≤ y8 then
    some (y9, σ)
  else
    (f_State_copyFrom σ y7 x2).bind fun q8 =>
    (f_Trade_passHour q8 y7).bind fun q9 =>
    (rc 0 q9 y7 (x3 - (1 : Int32)) (x4 - y8) x5 x6).bind fun q10 =>
    some ((y9 + q10.1), q10.2)
def f_Outlook_partsReaching (rc : Nat → Mem → Nat → Int32 → Int32 → Int32 → Int32 → Option (Int32 × Mem)) (σ : Mem) (x2 : Nat) (x3 : Int32) (x4 : Int32) (x5 : Int32) (x6 : Int32) : Option (Int32 × Mem) :=
  if x3 ≤ (0 : Int32) then
    f_Outlook_partsReaching_J13 rc σ x2 x3 x4 x5 x6
  else
    if x3 < (Int32.ofNat 7) then
      if inb x3 7 then
        if ((((((x4).toInt64) * ((x6).toInt64)) / (100 : Int64))).toInt32) ≤ (0 : Int32) then
          f_Outlook_partsReaching_J113 rc σ x2 x3 x4 x5 x6 (ra 445 x3.toNatClampNeg) ((((((x4).toInt64) * ((x6).toInt64)) / (100 : Int64))).toInt32) (0 : Int32)
        else
          (f_State_copyFrom σ (ra 445 x3.toNatClampNeg) x2).bind fun q11 =>
          (f_Trade_passHour (sI q11 (ra 445 x3.toNatClampNeg) 12 (15 : Int32)) (ra 445 x3.toNatClampNeg)).bind fun q12 =>
          (rc 0 (sI q12 (ra 445 x3.toNatClampNeg) 12 (mI q12 x2 12)) (ra 445 x3.toNatClampNeg) (x3 - (1 : Int32)) ((((((x4).toInt64) * ((x6).toInt64)) / (100 : Int64))).toInt32) x5 x6).bind fun q13 =>
          f_Outlook_partsReaching_J113 rc q13.2 x2 x3 x4 x5 x6 (ra 445 x3.toNatClampNeg) ((((((x4).toInt64) * ((x6).toInt64)) / (100 : Int64))).toInt32) ((0 : Int32) + q13.1)
      else none
    else
      f_Outlook_partsReaching_J13 rc σ x2 x3 x4 x5 x6
set_option maxHeartbeats 4000000 in
set_option maxRecDepth 20000 in
theorem g_Outlook_partsReaching_J13 (X : Cx θ p s m args c cX6_partsReaching 10 RX6) (hr : meth.sig.returnType = some .int) (hlk : meth.locks = false) {rc : Nat → Mem → Nat → Int32 → Int32 → Int32 → Int32 → Option (Int32 × Mem)} {nr : Nat} (hrec0 : ∀ {σ : Mem} {x2 : Nat} {x3 : Int32} {x4 : Int32} {x5 : Int32} {x6 : Int32} {r : Int32 × Mem}, kd x2 = 8 → rc 0 σ x2 x3 x4 x5 x6 = some r → Cn θ l yX6_partsReaching cX6_partsReaching 10 (some .int) (4 + nr) 0 0 [.ref (be θ + 434), .ref (be θ + 428), .ref (be θ + x2), .int x3, .int x4, .int x5, .int x6] σ (some (.int r.1), r.2))  {σ : Mem} {x2 : Nat} {x3 : Int32} {x4 : Int32} {x5 : Int32} {x6 : Int32} {r : Int32 × Mem} (h2 : kd x2 = 8) (h : f_Outlook_partsReaching_J13 rc σ x2 x3 x4 x5 x6 = some r) : GB θ p l e (4 + nr + 1) s m args below meth c 10 (some (.int r.1), r.2) 13 [(0, .ref (be θ + 434)), (1, .ref (be θ + 428)), (2, .ref (be θ + x2)), (3, .int x3), (4, .int x4), (5, .int x5), (6, .int x6)] [] σ := by
  unfold f_Outlook_partsReaching_J13 at h
  refine g_aload_n X dX6_partsReaching_13 rfl 2 rfl ?_
  refine g_get X fl_RX6_41 dX6_partsReaching_14 h2 (v := .int (mI σ x2 13)) rfl ?_
  refine g_aload_n X dX6_partsReaching_17 rfl 2 rfl ?_
  obtain ⟨q2, hq2, h⟩ := Option.bind_eq_some_iff.mp h
  refine g_cV X (c_State_dueOfAll h2 hq2) lk_RX6_55 my_X7_dueOfAll (a := x2) (ci := 7) h2 (by decide) rfl (As := []) (rest := [.int (mI σ x2 13)]) rfl rfl (Nat.le_of_ble_eq_true rfl) ⟨(by show 0 + 1 ≤ 4 + nr + 1; omega), (by show 8 + (3 + 11) + 40 * 0 ≤ 40 * (4 + nr + 1); omega)⟩ ⟨(Nat.le_of_ble_eq_true rfl), (Nat.le_of_ble_eq_true rfl)⟩ dX6_partsReaching_18 (st' := [.int q2, .int (mI σ x2 13)]) (σ' := σ) rfl rfl ?_
  refine g_iadd X dX6_partsReaching_21 ?_
  refine g_iload X dX6_partsReaching_22 5 rfl ?_
  refine g_icmp_lt (tgt := 32) X dX6_partsReaching_24 (by decide) (fun c3 => ?_) (fun c3 => ?_)
  · replace h := (if_pos c3).symm.trans h
    refine g_iconst X dX6_partsReaching_32 (v := (0 : Int32)) ic_0 ?_
    exact g_iret X hr hlk dX6_partsReaching_33 (by cases h; rfl)
  · replace h := (if_neg c3).symm.trans h
    refine g_iload X dX6_partsReaching_27 4 rfl ?_
    refine g_goto (tgt := 33) X dX6_partsReaching_29 (by decide) ?_
    exact g_iret X hr hlk dX6_partsReaching_33 (by cases h; rfl)
set_option maxHeartbeats 4000000 in
set_option maxRecDepth 20000 in
theorem g_Outlook_partsReaching_J113 (X : Cx θ p s m args c cX6_partsReaching 10 RX6) (hr : meth.sig.returnType = some .int) (hlk : meth.locks = false) {rc : Nat → Mem → Nat → Int32 → Int32 → Int32 → Int32 → Option (Int32 × Mem)} {nr : Nat} (hrec0 : ∀ {σ : Mem} {x2 : Nat} {x3 : Int32} {x4 : Int32} {x5 : Int32} {x6 : Int32} {r : Int32 × Mem}, kd x2 = 8 → rc 0 σ x2 x3 x4 x5 x6 = some r → Cn θ l yX6_partsReaching cX6_partsReaching 10 (some .int) (4 + nr) 0 0 [.ref (be θ + 434), .ref (be θ + 428), .ref (be θ + x2), .int x3, .int x4, .int x5, .int x6] σ (some (.int r.1), r.2))  {σ : Mem} {x2 : Nat} {x3 : Int32} {x4 : Int32} {x5 : Int32} {x6 : Int32} {y7 : Nat} {y8 : Int32} {y9 : Int32} {r : Int32 × Mem} (h2 : kd x2 = 8) (k7 : kd y7 = 8) (h : f_Outlook_partsReaching_J113 rc σ x2 x3 x4 x5 x6 y7 y8 y9 = some r) : GB θ p l e (4 + nr + 1) s m args below meth c 10 (some (.int r.1), r.2) 113 [(0, .ref (be θ + 434)), (1, .ref (be θ + 428)), (2, .ref (be θ + x2)), (3, .int x3), (4, .int x4), (5, .int x5), (6, .int x6), (7, .ref (be θ + y7)), (8, .int y8), (9, .int y9)] [] σ := by
  unfold f_Outlook_partsReaching_J113 at h
  refine g_iload X dX6_partsReaching_113 4 rfl ?_
  refine g_iload X dX6_partsReaching_115 8 rfl ?_
  refine g_icmp_le (tgt := 156) X dX6_partsReaching_117 (by decide) (fun c7 => ?_) (fun c7 => ?_)
  · replace h := (if_pos c7).symm.trans h
    refine g_iload X dX6_partsReaching_156 9 rfl ?_
    exact g_iret X hr hlk dX6_partsReaching_158 (by cases h; rfl)
  · replace h := (if_neg c7).symm.trans h
    refine g_aload X dX6_partsReaching_120 7 rfl ?_
    refine g_aload_n X dX6_partsReaching_122 rfl 2 rfl ?_
    obtain ⟨q8, hq8, h⟩ := Option.bind_eq_some_iff.mp h
    refine g_cV X (c_State_copyFrom k7 h2 hq8) lk_RX6_29 my_X7_copyFrom (a := y7) (ci := 7) k7 (by decide) rfl (As := [.ref (be θ + x2)]) (rest := []) rfl rfl (Nat.le_of_ble_eq_true rfl) ⟨(by show 1 + 1 ≤ 4 + nr + 1; omega), (by show 8 + (2 + 11) + 40 * 1 ≤ 40 * (4 + nr + 1); omega)⟩ ⟨(Nat.le_of_ble_eq_true rfl), (Nat.le_of_ble_eq_true rfl)⟩ dX6_partsReaching_123 (st' := []) (σ' := q8) rfl rfl ?_
    refine g_aload_n X dX6_partsReaching_126 rfl 1 rfl ?_
    refine g_aload X dX6_partsReaching_127 7 rfl ?_
    obtain ⟨q9, hq9, h⟩ := Option.bind_eq_some_iff.mp h
    refine g_cV X (c_Trade_passHour k7 hq9) lk_RX6_33 my_X9_passHour (a := 428) (ci := 9) kd_428 (by decide) rfl (As := [.ref (be θ + y7)]) (rest := []) rfl rfl (Nat.le_of_ble_eq_true rfl) ⟨(by show 4 + 1 ≤ 4 + nr + 1; omega), (by show 8 + (3 + 11) + 40 * 4 ≤ 40 * (4 + nr + 1); omega)⟩ ⟨(Nat.le_of_ble_eq_true rfl), (Nat.le_of_ble_eq_true rfl)⟩ dX6_partsReaching_129 (st' := []) (σ' := q9) rfl rfl ?_
    refine g_iload X dX6_partsReaching_132 9 rfl ?_
    refine g_aload_n X dX6_partsReaching_134 rfl 0 rfl ?_
    refine g_aload_n X dX6_partsReaching_135 rfl 1 rfl ?_
    refine g_aload X dX6_partsReaching_136 7 rfl ?_
    refine g_iload_n X dX6_partsReaching_138 rfl 3 rfl ?_
    refine g_iconst X dX6_partsReaching_139 (v := (1 : Int32)) ic_1 ?_
    refine g_isub X dX6_partsReaching_140 ?_
    refine g_iload X dX6_partsReaching_141 4 rfl ?_
    refine g_iload X dX6_partsReaching_143 8 rfl ?_
    refine g_isub X dX6_partsReaching_145 ?_
    refine g_iload X dX6_partsReaching_146 5 rfl ?_
    refine g_iload X dX6_partsReaching_148 6 rfl ?_
    obtain ⟨q10, hq10, h⟩ := Option.bind_eq_some_iff.mp h
    refine g_cV X (hrec0 k7 hq10) lk_RX6_64 my_X6_partsReaching (a := 434) (ci := 6) kd_434 (by decide) rfl (As := [.ref (be θ + 428), .ref (be θ + y7), .int (x3 - (1 : Int32)), .int (x4 - y8), .int x5, .int x6]) (rest := [.int y9]) rfl rfl (Nat.le_of_ble_eq_true rfl) ⟨Nat.le_refl _, (by show 8 + (10 + 11) + 40 * (4 + nr) ≤ 40 * (4 + nr + 1); omega)⟩ ⟨(Nat.le_of_ble_eq_true rfl), (Nat.le_of_ble_eq_true rfl)⟩ dX6_partsReaching_150 (st' := [.int q10.1, .int y9]) (σ' := q10.2) rfl rfl ?_
    refine g_iadd X dX6_partsReaching_153 ?_
    refine g_istore X dX6_partsReaching_154 (by decide) (lv' := [(9, .int (y9 + q10.1)), (0, .ref (be θ + 434)), (1, .ref (be θ + 428)), (2, .ref (be θ + x2)), (3, .int x3), (4, .int x4), (5, .int x5), (6, .int x6), (7, .ref (be θ + y7)), (8, .int y8)]) rfl ?_
    refine g_iload X dX6_partsReaching_156 0 rfl ?_
    exact g_iret X hr hlk dX6_partsReaching_158 (by cases h; rfl)
set_option maxHeartbeats 4000000 in
set_option maxRecDepth 20000 in
theorem g_Outlook_partsReaching (X : Cx θ p s m args c cX6_partsReaching 10 RX6) (hr : meth.sig.returnType = some .int) (hlk : meth.locks = false) {rc : Nat → Mem → Nat → Int32 → Int32 → Int32 → Int32 → Option (Int32 × Mem)} {nr : Nat} (hrec0 : ∀ {σ : Mem} {x2 : Nat} {x3 : Int32} {x4 : Int32} {x5 : Int32} {x6 : Int32} {r : Int32 × Mem}, kd x2 = 8 → rc 0 σ x2 x3 x4 x5 x6 = some r → Cn θ l yX6_partsReaching cX6_partsReaching 10 (some .int) (4 + nr) 0 0 [.ref (be θ + 434), .ref (be θ + 428), .ref (be θ + x2), .int x3, .int x4, .int x5, .int x6] σ (some (.int r.1), r.2))  {σ : Mem} {x2 : Nat} {x3 : Int32} {x4 : Int32} {x5 : Int32} {x6 : Int32} {r : Int32 × Mem} (h2 : kd x2 = 8) (h : f_Outlook_partsReaching rc σ x2 x3 x4 x5 x6 = some r) : GB θ p l e (4 + nr + 1) s m args below meth c 10 (some (.int r.1), r.2) 0 [(0, .ref (be θ + 434)), (1, .ref (be θ + 428)), (2, .ref (be θ + x2)), (3, .int x3), (4, .int x4), (5, .int x5), (6, .int x6)] [] σ := by
  unfold f_Outlook_partsReaching at h
  refine g_iload_n X dX6_partsReaching_0 rfl 3 rfl ?_
  refine g_if_le (tgt := 13) X dX6_partsReaching_1 (by decide) (fun c1 => ?_) (fun c1 => ?_)
  · replace h := (if_pos c1).symm.trans h
    exact g_sub (lv' := [(0, .ref (be θ + 434)), (1, .ref (be θ + 428)), (2, .ref (be θ + x2)), (3, .int x3), (4, .int x4), (5, .int x5), (6, .int x6)]) [0, 1, 2, 3, 4, 5, 6] rfl (g_Outlook_partsReaching_J13 X hr hlk hrec0 h2  h)
  · replace h := (if_neg c1).symm.trans h
    refine g_iload_n X dX6_partsReaching_4 rfl 3 rfl ?_
    refine g_aload_n X dX6_partsReaching_5 rfl 0 rfl ?_
    refine g_get X fl_RX6_18 dX6_partsReaching_6 kd_434 (v := .ref (be θ + 445)) rfl ?_
    refine g_alen X kd_445 (by decide) ln_445 (v := (Int32.ofNat 7)) rfl dX6_partsReaching_9 ?_
    refine g_icmp_lt (tgt := 34) X dX6_partsReaching_10 (by decide) (fun c4 => ?_) (fun c4 => ?_)
    · replace h := (if_pos c4).symm.trans h
      refine g_aload_n X dX6_partsReaching_34 rfl 0 rfl ?_
      refine g_get X fl_RX6_18 dX6_partsReaching_35 kd_434 (v := .ref (be θ + 445)) rfl ?_
      refine g_iload_n X dX6_partsReaching_38 rfl 3 rfl ?_
      obtain ⟨g5, h⟩ := ite_some h
      refine g_aald X kd_445 (by decide) ln_445 (inb_in g5) dX6_partsReaching_39 ?_
      refine g_astore X dX6_partsReaching_40 (by decide) (lv' := [(7, .ref (be θ + (ra 445 x3.toNatClampNeg))), (0, .ref (be θ + 434)), (1, .ref (be θ + 428)), (2, .ref (be θ + x2)), (3, .int x3), (4, .int x4), (5, .int x5), (6, .int x6)]) rfl ?_
      refine g_iload X dX6_partsReaching_42 5 rfl ?_
      refine g_i2l X dX6_partsReaching_44 (v := ((x4).toInt64)) rfl ?_
      refine g_iload X dX6_partsReaching_45 7 rfl ?_
      refine g_i2l X dX6_partsReaching_47 (v := ((x6).toInt64)) rfl ?_
      refine g_lmul X dX6_partsReaching_48 ?_
      refine g_ldc2 X cst_RX6_59 dX6_partsReaching_49 ?_
      refine g_ldiv X dX6_partsReaching_52 (by decide) ?_
      refine g_l2i X dX6_partsReaching_53 (v := ((((((x4).toInt64) * ((x6).toInt64)) / (100 : Int64))).toInt32)) rfl ?_
      refine g_istore X dX6_partsReaching_54 (by decide) (lv' := [(8, .int ((((((x4).toInt64) * ((x6).toInt64)) / (100 : Int64))).toInt32)), (7, .ref (be θ + (ra 445 x3.toNatClampNeg))), (0, .ref (be θ + 434)), (1, .ref (be θ + 428)), (2, .ref (be θ + x2)), (3, .int x3), (4, .int x4), (5, .int x5), (6, .int x6)]) rfl ?_
      refine g_iconst X dX6_partsReaching_56 (v := (0 : Int32)) ic_0 ?_
      refine g_istore X dX6_partsReaching_57 (by decide) (lv' := [(9, .int (0 : Int32)), (8, .int ((((((x4).toInt64) * ((x6).toInt64)) / (100 : Int64))).toInt32)), (7, .ref (be θ + (ra 445 x3.toNatClampNeg))), (0, .ref (be θ + 434)), (1, .ref (be θ + 428)), (2, .ref (be θ + x2)), (3, .int x3), (4, .int x4), (5, .int x5), (6, .int x6)]) rfl ?_
      refine g_iload X dX6_partsReaching_59 1 rfl ?_
      refine g_if_le (tgt := 113) X dX6_partsReaching_61 (by decide) (fun c6 => ?_) (fun c6 => ?_)
      · replace h := (if_pos c6).symm.trans h
        exact g_sub (lv' := [(0, .ref (be θ + 434)), (1, .ref (be θ + 428)), (2, .ref (be θ + x2)), (3, .int x3), (4, .int x4), (5, .int x5), (6, .int x6), (7, .ref (be θ + (ra 445 x3.toNatClampNeg))), (8, .int ((((((x4).toInt64) * ((x6).toInt64)) / (100 : Int64))).toInt32)), (9, .int (0 : Int32))]) [3, 4, 5, 6, 7, 8, 9, 2, 1, 0] rfl (g_Outlook_partsReaching_J113 X hr hlk hrec0 h2 (ra_445 (in_lt (inb_in g5))) h)
      · replace h := (if_neg c6).symm.trans h
        refine g_aload X dX6_partsReaching_64 2 rfl ?_
        refine g_aload_n X dX6_partsReaching_66 rfl 5 rfl ?_
        obtain ⟨q11, hq11, h⟩ := Option.bind_eq_some_iff.mp h
        refine g_cV X (c_State_copyFrom (ra_445 (in_lt (inb_in g5))) h2 hq11) lk_RX6_29 my_X7_copyFrom (a := (ra 445 x3.toNatClampNeg)) (ci := 7) (ra_445 (in_lt (inb_in g5))) (by decide) rfl (As := [.ref (be θ + x2)]) (rest := []) rfl rfl (Nat.le_of_ble_eq_true rfl) ⟨(by show 1 + 1 ≤ 4 + nr + 1; omega), (by show 8 + (2 + 11) + 40 * 1 ≤ 40 * (4 + nr + 1); omega)⟩ ⟨(Nat.le_of_ble_eq_true rfl), (Nat.le_of_ble_eq_true rfl)⟩ dX6_partsReaching_67 (st' := []) (σ' := q11) rfl rfl ?_
        refine g_aload X dX6_partsReaching_70 2 rfl ?_
        refine g_bipush X dX6_partsReaching_72 (v := (15 : Int32)) bp_15 ?_
        refine g_putI X fl_RX6_61 dX6_partsReaching_74 (ra_445 (in_lt (inb_in g5))) rfl rfl rfl ?_
        refine g_aload_n X dX6_partsReaching_77 rfl 4 rfl ?_
        refine g_aload X dX6_partsReaching_78 2 rfl ?_
        obtain ⟨q12, hq12, h⟩ := Option.bind_eq_some_iff.mp h
        refine g_cV X (c_Trade_passHour (ra_445 (in_lt (inb_in g5))) hq12) lk_RX6_33 my_X9_passHour (a := 428) (ci := 9) kd_428 (by decide) rfl (As := [.ref (be θ + (ra 445 x3.toNatClampNeg))]) (rest := []) rfl rfl (Nat.le_of_ble_eq_true rfl) ⟨(by show 4 + 1 ≤ 4 + nr + 1; omega), (by show 8 + (3 + 11) + 40 * 4 ≤ 40 * (4 + nr + 1); omega)⟩ ⟨(Nat.le_of_ble_eq_true rfl), (Nat.le_of_ble_eq_true rfl)⟩ dX6_partsReaching_80 (st' := []) (σ' := q12) rfl rfl ?_
        refine g_aload X dX6_partsReaching_83 2 rfl ?_
        refine g_aload_n X dX6_partsReaching_85 rfl 5 rfl ?_
        refine g_get X fl_RX6_61 dX6_partsReaching_86 h2 (v := .int (mI q12 x2 12)) rfl ?_
        refine g_putI X fl_RX6_61 dX6_partsReaching_89 (ra_445 (in_lt (inb_in g5))) rfl rfl rfl ?_
        refine g_iload X dX6_partsReaching_92 0 rfl ?_
        refine g_aload_n X dX6_partsReaching_94 rfl 3 rfl ?_
        refine g_aload_n X dX6_partsReaching_95 rfl 4 rfl ?_
        refine g_aload X dX6_partsReaching_96 2 rfl ?_
        refine g_iload_n X dX6_partsReaching_98 rfl 6 rfl ?_
        refine g_iconst X dX6_partsReaching_99 (v := (1 : Int32)) ic_1 ?_
        refine g_isub X dX6_partsReaching_100 ?_
        refine g_iload X dX6_partsReaching_101 1 rfl ?_
        refine g_iload X dX6_partsReaching_103 8 rfl ?_
        refine g_iload X dX6_partsReaching_105 9 rfl ?_
        obtain ⟨q13, hq13, h⟩ := Option.bind_eq_some_iff.mp h
        refine g_cV X (hrec0 (ra_445 (in_lt (inb_in g5))) hq13) lk_RX6_64 my_X6_partsReaching (a := 434) (ci := 6) kd_434 (by decide) rfl (As := [.ref (be θ + 428), .ref (be θ + (ra 445 x3.toNatClampNeg)), .int (x3 - (1 : Int32)), .int ((((((x4).toInt64) * ((x6).toInt64)) / (100 : Int64))).toInt32), .int x5, .int x6]) (rest := [.int (0 : Int32)]) rfl rfl (Nat.le_of_ble_eq_true rfl) ⟨Nat.le_refl _, (by show 8 + (10 + 11) + 40 * (4 + nr) ≤ 40 * (4 + nr + 1); omega)⟩ ⟨(Nat.le_of_ble_eq_true rfl), (Nat.le_of_ble_eq_true rfl)⟩ dX6_partsReaching_107 (st' := [.int q13.1, .int (0 : Int32)]) (σ' := q13.2) rfl rfl ?_
        refine g_iadd X dX6_partsReaching_110 ?_
        refine g_istore X dX6_partsReaching_111 (by decide) (lv' := [(9, .int ((0 : Int32) + q13.1)), (8, .int ((((((x4).toInt64) * ((x6).toInt64)) / (100 : Int64))).toInt32)), (7, .ref (be θ + (ra 445 x3.toNatClampNeg))), (0, .ref (be θ + 434)), (1, .ref (be θ + 428)), (2, .ref (be θ + x2)), (3, .int x3), (4, .int x4), (5, .int x5), (6, .int x6)]) rfl ?_
        exact g_sub (lv' := [(0, .ref (be θ + 434)), (1, .ref (be θ + 428)), (2, .ref (be θ + x2)), (3, .int x3), (4, .int x4), (5, .int x5), (6, .int x6), (7, .ref (be θ + (ra 445 x3.toNatClampNeg))), (8, .int ((((((x4).toInt64) * ((x6).toInt64)) / (100 : Int64))).toInt32)), (9, .int ((0 : Int32) + q13.1))]) [3, 4, 5, 6, 7, 8, 9, 2, 1, 0] rfl (g_Outlook_partsReaching_J113 X hr hlk hrec0 h2 (ra_445 (in_lt (inb_in g5))) h)
    · replace h := (if_neg c4).symm.trans h
      exact g_sub (lv' := [(0, .ref (be θ + 434)), (1, .ref (be θ + 428)), (2, .ref (be θ + x2)), (3, .int x3), (4, .int x4), (5, .int x5), (6, .int x6)]) [0, 1, 2, 3, 4, 5, 6] rfl (g_Outlook_partsReaching_J13 X hr hlk hrec0 h2  h)
def f_PR : Nat → Nat → Mem → Nat → Int32 → Int32 → Int32 → Int32 → Option (Int32 × Mem)
  | 0 => fun _ _ _ _ _ _ _ => none
  | n + 1 => fun no σ z0 z1 z2 z3 z4 => f_Outlook_partsReaching (f_PR n) σ z0 z1 z2 z3 z4
set_option maxHeartbeats 4000000 in
set_option maxRecDepth 100000 in
theorem a_PR {θ : Th} {l : Launch} : ∀ n : Nat, (∀ {σ : Mem} {x2 : Nat} {x3 : Int32} {x4 : Int32} {x5 : Int32} {x6 : Int32} {r : Int32 × Mem}, kd x2 = 8 → f_PR n 0 σ x2 x3 x4 x5 x6 = some r → Cn θ l yX6_partsReaching cX6_partsReaching 10 (some .int) (4 + n) 0 0 [.ref (be θ + 434), .ref (be θ + 428), .ref (be θ + x2), .int x3, .int x4, .int x5, .int x6] σ (some (.int r.1), r.2)) := by
  intro n
  induction n with
  | zero =>
    · intro σ x2 x3 x4 x5 x6 r h2 h
      cases h
  | succ n ih =>
    have i0 := @ih
    · intro σ x2 x3 x4 x5 x6 r h2 h
      exact Cn.of (by decide) (Nat.le_of_ble_eq_true rfl) (fun p e s m below meth c X hr hlk => g_Outlook_partsReaching (nr := n) (rc := f_PR n) X hr hlk i0 h2 h)
set_option maxRecDepth 100000 in
theorem c_PR_0 {θ : Th} {l : Launch} : ∀ {σ : Mem} {x2 : Nat} {x3 : Int32} {x4 : Int32} {x5 : Int32} {x6 : Int32} {r : Int32 × Mem}, kd x2 = 8 → f_PR 8 0 σ x2 x3 x4 x5 x6 = some r → Cn θ l yX6_partsReaching cX6_partsReaching 10 (some .int) 12 0 0 [.ref (be θ + 434), .ref (be θ + 428), .ref (be θ + x2), .int x3, .int x4, .int x5, .int x6] σ (some (.int r.1), r.2) := (a_PR 8)
theorem dX7_billsOf_0 : decode cX7_billsOf 0 = .ok (.iconst 0, 1) := by decide +kernel
theorem dX7_billsOf_1 : decode cX7_billsOf 1 = .ok (.istore_n 2, 1) := by decide +kernel
theorem dX7_billsOf_2 : decode cX7_billsOf 2 = .ok (.iconst 0, 1) := by decide +kernel
theorem dX7_billsOf_3 : decode cX7_billsOf 3 = .ok (.istore_n 3, 1) := by decide +kernel
theorem dX7_billsOf_4 : decode cX7_billsOf 4 = .ok (.iload_n 3, 1) := by decide +kernel
theorem dX7_billsOf_5 : decode cX7_billsOf 5 = .ok (.aload_n 0, 1) := by decide +kernel
theorem dX7_billsOf_6 : decode cX7_billsOf 6 = .ok (.getfield 39, 3) := by decide +kernel
theorem dX7_billsOf_9 : decode cX7_billsOf 9 = .ok (.if_icmp .ge 24, 3) := by decide +kernel
theorem dX7_billsOf_12 : decode cX7_billsOf 12 = .ok (.aload_n 0, 1) := by decide +kernel
theorem dX7_billsOf_13 : decode cX7_billsOf 13 = .ok (.getfield 33, 3) := by decide +kernel
theorem dX7_billsOf_16 : decode cX7_billsOf 16 = .ok (.iload_n 3, 1) := by decide +kernel
theorem dX7_billsOf_17 : decode cX7_billsOf 17 = .ok (.iconst 4, 1) := by decide +kernel
theorem dX7_billsOf_18 : decode cX7_billsOf 18 = .ok (.imul, 1) := by decide +kernel
theorem dX7_billsOf_19 : decode cX7_billsOf 19 = .ok (.iaload, 1) := by decide +kernel
theorem dX7_billsOf_20 : decode cX7_billsOf 20 = .ok (.iload_n 1, 1) := by decide +kernel
theorem dX7_billsOf_21 : decode cX7_billsOf 21 = .ok (.if_icmp .ne 6, 3) := by decide +kernel
theorem dX7_billsOf_24 : decode cX7_billsOf 24 = .ok (.iinc 2 1, 3) := by decide +kernel
theorem dX7_billsOf_27 : decode cX7_billsOf 27 = .ok (.iinc 3 1, 3) := by decide +kernel
theorem dX7_billsOf_30 : decode cX7_billsOf 30 = .ok (.goto (-26), 3) := by decide +kernel
theorem dX7_billsOf_33 : decode cX7_billsOf 33 = .ok (.iload_n 2, 1) := by decide +kernel
theorem dX7_billsOf_34 : decode cX7_billsOf 34 = .ok (.ireturn, 1) := by decide +kernel
def f_State_billsOf_L4 (σ : Mem) (x0 : Nat) (x1 : Int32) (a : Int32 × Int32) : Option ((Int32 × Int32) ⊕ (Int32)) :=
  @Prod.casesOn (Int32) (Int32) (fun _ => Option ((Int32 × Int32) ⊕ (Int32))) a fun z2 z3 =>
  if (mI σ x0 9) ≤ z3 then
    some (.inr z2)
  else
    if inb (z3 * (4 : Int32)) 96 then
      if (mI σ (x0 + 8) (z3 * (4 : Int32)).toNatClampNeg) = x1 then
        some (.inl ((z2 + (1 : Int32)), (z3 + (1 : Int32))))
      else
        some (.inl (z2, (z3 + (1 : Int32))))
    else none
def f_State_billsOf (σ : Mem) (x0 : Nat) (x1 : Int32) : Option (Int32) :=
  loopF (f_State_billsOf_L4 σ x0 x1) FU ((0 : Int32), (0 : Int32))
set_option maxHeartbeats 4000000 in
set_option maxRecDepth 20000 in
theorem gs_State_billsOf_L4 (X : Cx θ p s m args c cX7_billsOf 4 RX7) (hr : meth.sig.returnType = some .int) (hlk : meth.locks = false)  {σ : Mem} {x0 : Nat} {x1 : Int32} {r : Int32} (h0 : kd x0 = 8) (z2 : Int32) (z3 : Int32) (x : (Int32 × Int32) ⊕ (Int32)) (h : f_State_billsOf_L4 σ x0 x1 (z2, z3) = some x) (hk : Sum.elim (fun a => @Prod.casesOn (Int32) (Int32) (fun _ => Prop) a fun z2 z3 => GB θ p l e 0 s m args below meth c 4 (some (.int r), σ) 4 [(0, .ref (be θ + x0)), (1, .int x1), (2, .int z2), (3, .int z3)] [] σ) (fun b => b = r) x) : GB θ p l e 0 s m args below meth c 4 (some (.int r), σ) 4 [(0, .ref (be θ + x0)), (1, .int x1), (2, .int z2), (3, .int z3)] [] σ := by
  unfold f_State_billsOf_L4 at h
  dsimp only at h
  refine g_iload_n X dX7_billsOf_4 rfl 3 rfl ?_
  refine g_aload_n X dX7_billsOf_5 rfl 0 rfl ?_
  refine g_get X fl_RX7_39 dX7_billsOf_6 h0 (v := .int (mI σ x0 9)) rfl ?_
  refine g_icmp_ge (tgt := 33) X dX7_billsOf_9 (by decide) (fun c1 => ?_) (fun c1 => ?_)
  · replace h := (if_pos c1).symm.trans h
    refine g_iload_n X dX7_billsOf_33 rfl 2 rfl ?_
    have hk := inr_hk h hk
    have hk : z2 = r := hk
    subst hk
    exact g_iret X hr hlk dX7_billsOf_34 rfl
  · replace h := (if_neg c1).symm.trans h
    refine g_aload_n X dX7_billsOf_12 rfl 0 rfl ?_
    refine g_get X fl_RX7_33 dX7_billsOf_13 h0 (v := .ref (be θ + (x0 + 8))) rfl ?_
    refine g_iload_n X dX7_billsOf_16 rfl 3 rfl ?_
    refine g_iconst X dX7_billsOf_17 (v := (4 : Int32)) ic_4 ?_
    refine g_imul X dX7_billsOf_18 ?_
    obtain ⟨g2, h⟩ := ite_some h
    refine g_iald X (lk7_7 h0).1 (lk7_7 h0).2 (inb_in g2) dX7_billsOf_19 ?_
    refine g_iload_n X dX7_billsOf_20 rfl 1 rfl ?_
    refine g_icmp_ne (tgt := 27) X dX7_billsOf_21 (by decide) (fun c3 => ?_) (fun c3 => ?_)
    · replace h := (if_neg c3).symm.trans h
      refine g_iinc X dX7_billsOf_27 (kq := 3) rfl (congrArg (HAdd.hAdd _) ic_1) (by decide) (lv' := [(3, .int (z3 + (1 : Int32))), (0, .ref (be θ + x0)), (1, .int x1), (2, .int z2)]) rfl ?_
      refine g_goto (tgt := 4) X dX7_billsOf_30 (by decide) ?_
      have hk := inl_hk h hk
      exact g_sub (lv' := [(0, .ref (be θ + x0)), (1, .int x1), (2, .int z2), (3, .int (z3 + (1 : Int32)))]) [1, 2, 3, 0] rfl hk
    · replace h := (if_pos c3).symm.trans h
      refine g_iinc X dX7_billsOf_24 (kq := 2) rfl (congrArg (HAdd.hAdd _) ic_1) (by decide) (lv' := [(2, .int (z2 + (1 : Int32))), (0, .ref (be θ + x0)), (1, .int x1), (3, .int z3)]) rfl ?_
      refine g_iinc X dX7_billsOf_27 (kq := 3) rfl (congrArg (HAdd.hAdd _) ic_1) (by decide) (lv' := [(3, .int (z3 + (1 : Int32))), (2, .int (z2 + (1 : Int32))), (0, .ref (be θ + x0)), (1, .int x1)]) rfl ?_
      refine g_goto (tgt := 4) X dX7_billsOf_30 (by decide) ?_
      have hk := inl_hk h hk
      exact g_sub (lv' := [(0, .ref (be θ + x0)), (1, .int x1), (2, .int (z2 + (1 : Int32))), (3, .int (z3 + (1 : Int32)))]) [2, 3, 1, 0] rfl hk
set_option maxHeartbeats 4000000 in
set_option maxRecDepth 20000 in
theorem gl_State_billsOf_L4 (X : Cx θ p s m args c cX7_billsOf 4 RX7) (hr : meth.sig.returnType = some .int) (hlk : meth.locks = false)  {σ : Mem} {x0 : Nat} {x1 : Int32} {r : Int32} (h0 : kd x0 = 8) (n : Nat) (a : Int32 × Int32) (b : Int32) (h : loopF (f_State_billsOf_L4 σ x0 x1) n a = some b) (hk : (fun b => b = r) b) : (fun a => @Prod.casesOn (Int32) (Int32) (fun _ => Prop) a fun z2 z3 => GB θ p l e 0 s m args below meth c 4 (some (.int r), σ) 4 [(0, .ref (be θ + x0)), (1, .int x1), (2, .int z2), (3, .int z3)] [] σ) a :=
  loopF_by (P := (fun a => @Prod.casesOn (Int32) (Int32) (fun _ => Prop) a fun z2 z3 => GB θ p l e 0 s m args below meth c 4 (some (.int r), σ) 4 [(0, .ref (be θ + x0)), (1, .int x1), (2, .int z2), (3, .int z3)] [] σ)) (K := (fun b => b = r)) (fun a x h hk => by obtain ⟨z2, z3⟩ := a; exact gs_State_billsOf_L4 X hr hlk  h0 z2 z3 x h hk) n a b h hk
set_option maxHeartbeats 4000000 in
set_option maxRecDepth 20000 in
theorem g_State_billsOf (X : Cx θ p s m args c cX7_billsOf 4 RX7) (hr : meth.sig.returnType = some .int) (hlk : meth.locks = false)  {σ : Mem} {x0 : Nat} {x1 : Int32} {r : Int32} (h0 : kd x0 = 8) (h : f_State_billsOf σ x0 x1 = some r) : GB θ p l e 0 s m args below meth c 4 (some (.int r), σ) 0 [(0, .ref (be θ + x0)), (1, .int x1)] [] σ := by
  unfold f_State_billsOf at h
  refine g_iconst X dX7_billsOf_0 (v := (0 : Int32)) ic_0 ?_
  refine g_istore_n X dX7_billsOf_1 rfl (by decide) (lv' := [(2, .int (0 : Int32)), (0, .ref (be θ + x0)), (1, .int x1)]) rfl ?_
  refine g_iconst X dX7_billsOf_2 (v := (0 : Int32)) ic_0 ?_
  refine g_istore_n X dX7_billsOf_3 rfl (by decide) (lv' := [(3, .int (0 : Int32)), (2, .int (0 : Int32)), (0, .ref (be θ + x0)), (1, .int x1)]) rfl ?_
  exact g_sub (lv' := [(0, .ref (be θ + x0)), (1, .int x1), (2, .int (0 : Int32)), (3, .int (0 : Int32))]) [2, 3, 1, 0] rfl (gl_State_billsOf_L4 X hr hlk  h0  FU _ _ h rfl)
set_option maxHeartbeats 4000000 in
set_option maxRecDepth 20000 in
theorem c_State_billsOf {θ : Th} {l : Launch} {σ : Mem} {x0 : Nat} {x1 : Int32} {r : Int32} (h0 : kd x0 = 8) (h : f_State_billsOf σ x0 x1 = some r) : Cn θ l yX7_billsOf cX7_billsOf 4 (some .int) 0 0 0 [.ref (be θ + x0), .int x1] σ (some (.int r), σ) :=
  Cn.of (by decide) (Nat.le_of_ble_eq_true rfl) (fun p e s m below meth c X hr hlk => g_State_billsOf X hr hlk h0 h)
theorem dX7_billRow_0 : decode cX7_billRow 0 = .ok (.iload_n 2, 1) := by decide +kernel
theorem dX7_billRow_1 : decode cX7_billRow 1 = .ok (.istore_n 3, 1) := by decide +kernel
theorem dX7_billRow_2 : decode cX7_billRow 2 = .ok (.iconst 0, 1) := by decide +kernel
theorem dX7_billRow_3 : decode cX7_billRow 3 = .ok (.istore 4, 2) := by decide +kernel
theorem dX7_billRow_5 : decode cX7_billRow 5 = .ok (.iload 4, 2) := by decide +kernel
theorem dX7_billRow_7 : decode cX7_billRow 7 = .ok (.aload_n 0, 1) := by decide +kernel
theorem dX7_billRow_8 : decode cX7_billRow 8 = .ok (.getfield 39, 3) := by decide +kernel
theorem dX7_billRow_11 : decode cX7_billRow 11 = .ok (.if_icmp .ge 37, 3) := by decide +kernel
theorem dX7_billRow_14 : decode cX7_billRow 14 = .ok (.aload_n 0, 1) := by decide +kernel
theorem dX7_billRow_15 : decode cX7_billRow 15 = .ok (.getfield 33, 3) := by decide +kernel
theorem dX7_billRow_18 : decode cX7_billRow 18 = .ok (.iload 4, 2) := by decide +kernel
theorem dX7_billRow_20 : decode cX7_billRow 20 = .ok (.iconst 4, 1) := by decide +kernel
theorem dX7_billRow_21 : decode cX7_billRow 21 = .ok (.imul, 1) := by decide +kernel
theorem dX7_billRow_22 : decode cX7_billRow 22 = .ok (.iaload, 1) := by decide +kernel
theorem dX7_billRow_23 : decode cX7_billRow 23 = .ok (.iload_n 1, 1) := by decide +kernel
theorem dX7_billRow_24 : decode cX7_billRow 24 = .ok (.if_icmp .eq 6, 3) := by decide +kernel
theorem dX7_billRow_27 : decode cX7_billRow 27 = .ok (.goto 15, 3) := by decide +kernel
theorem dX7_billRow_30 : decode cX7_billRow 30 = .ok (.iload_n 3, 1) := by decide +kernel
theorem dX7_billRow_31 : decode cX7_billRow 31 = .ok (.ifCond .ne 8, 3) := by decide +kernel
theorem dX7_billRow_34 : decode cX7_billRow 34 = .ok (.iload 4, 2) := by decide +kernel
theorem dX7_billRow_36 : decode cX7_billRow 36 = .ok (.iconst 4, 1) := by decide +kernel
theorem dX7_billRow_37 : decode cX7_billRow 37 = .ok (.imul, 1) := by decide +kernel
theorem dX7_billRow_38 : decode cX7_billRow 38 = .ok (.ireturn, 1) := by decide +kernel
theorem dX7_billRow_39 : decode cX7_billRow 39 = .ok (.iinc 3 (-1), 3) := by decide +kernel
theorem dX7_billRow_42 : decode cX7_billRow 42 = .ok (.iinc 4 1, 3) := by decide +kernel
theorem dX7_billRow_45 : decode cX7_billRow 45 = .ok (.goto (-40), 3) := by decide +kernel
theorem dX7_billRow_48 : decode cX7_billRow 48 = .ok (.iconst (-1), 1) := by decide +kernel
theorem dX7_billRow_49 : decode cX7_billRow 49 = .ok (.ireturn, 1) := by decide +kernel
def f_State_billRow_L5 (σ : Mem) (x0 : Nat) (x1 : Int32) (x2 : Int32) (a : Int32 × Int32) : Option ((Int32 × Int32) ⊕ (Int32)) :=
  @Prod.casesOn (Int32) (Int32) (fun _ => Option ((Int32 × Int32) ⊕ (Int32))) a fun z3 z4 =>
  if (mI σ x0 9) ≤ z4 then
    some (.inr (-1 : Int32))
  else
    if inb (z4 * (4 : Int32)) 96 then
      if (mI σ (x0 + 8) (z4 * (4 : Int32)).toNatClampNeg) = x1 then
        if z3 = (0 : Int32) then
          some (.inr (z4 * (4 : Int32)))
        else
          some (.inl ((z3 + (-1 : Int32)), (z4 + (1 : Int32))))
      else
        some (.inl (z3, (z4 + (1 : Int32))))
    else none
def f_State_billRow (σ : Mem) (x0 : Nat) (x1 : Int32) (x2 : Int32) : Option (Int32) :=
  loopF (f_State_billRow_L5 σ x0 x1 x2) FU (x2, (0 : Int32))
set_option maxHeartbeats 4000000 in
set_option maxRecDepth 20000 in
theorem gs_State_billRow_L5 (X : Cx θ p s m args c cX7_billRow 5 RX7) (hr : meth.sig.returnType = some .int) (hlk : meth.locks = false)  {σ : Mem} {x0 : Nat} {x1 : Int32} {x2 : Int32} {r : Int32} (h0 : kd x0 = 8) (z3 : Int32) (z4 : Int32) (x : (Int32 × Int32) ⊕ (Int32)) (h : f_State_billRow_L5 σ x0 x1 x2 (z3, z4) = some x) (hk : Sum.elim (fun a => @Prod.casesOn (Int32) (Int32) (fun _ => Prop) a fun z3 z4 => GB θ p l e 0 s m args below meth c 5 (some (.int r), σ) 5 [(0, .ref (be θ + x0)), (1, .int x1), (2, .int x2), (3, .int z3), (4, .int z4)] [] σ) (fun b => b = r) x) : GB θ p l e 0 s m args below meth c 5 (some (.int r), σ) 5 [(0, .ref (be θ + x0)), (1, .int x1), (2, .int x2), (3, .int z3), (4, .int z4)] [] σ := by
  unfold f_State_billRow_L5 at h
  dsimp only at h
  refine g_iload X dX7_billRow_5 4 rfl ?_
  refine g_aload_n X dX7_billRow_7 rfl 0 rfl ?_
  refine g_get X fl_RX7_39 dX7_billRow_8 h0 (v := .int (mI σ x0 9)) rfl ?_
  refine g_icmp_ge (tgt := 48) X dX7_billRow_11 (by decide) (fun c1 => ?_) (fun c1 => ?_)
  · replace h := (if_pos c1).symm.trans h
    refine g_iconst X dX7_billRow_48 (v := (-1 : Int32)) ic_m1 ?_
    have hk := inr_hk h hk
    have hk : (-1 : Int32) = r := hk
    subst hk
    exact g_iret X hr hlk dX7_billRow_49 rfl
  · replace h := (if_neg c1).symm.trans h
    refine g_aload_n X dX7_billRow_14 rfl 0 rfl ?_
    refine g_get X fl_RX7_33 dX7_billRow_15 h0 (v := .ref (be θ + (x0 + 8))) rfl ?_
    refine g_iload X dX7_billRow_18 4 rfl ?_
    refine g_iconst X dX7_billRow_20 (v := (4 : Int32)) ic_4 ?_
    refine g_imul X dX7_billRow_21 ?_
    obtain ⟨g2, h⟩ := ite_some h
    refine g_iald X (lk7_7 h0).1 (lk7_7 h0).2 (inb_in g2) dX7_billRow_22 ?_
    refine g_iload_n X dX7_billRow_23 rfl 1 rfl ?_
    refine g_icmp_eq (tgt := 30) X dX7_billRow_24 (by decide) (fun c3 => ?_) (fun c3 => ?_)
    · replace h := (if_pos c3).symm.trans h
      refine g_iload_n X dX7_billRow_30 rfl 3 rfl ?_
      refine g_if_ne (tgt := 39) X dX7_billRow_31 (by decide) (fun c4 => ?_) (fun c4 => ?_)
      · replace h := (if_neg c4).symm.trans h
        refine g_iinc X dX7_billRow_39 (kq := 3) rfl (congrArg (HAdd.hAdd _) ic_m1) (by decide) (lv' := [(3, .int (z3 + (-1 : Int32))), (0, .ref (be θ + x0)), (1, .int x1), (2, .int x2), (4, .int z4)]) rfl ?_
        refine g_iinc X dX7_billRow_42 (kq := 4) rfl (congrArg (HAdd.hAdd _) ic_1) (by decide) (lv' := [(4, .int (z4 + (1 : Int32))), (3, .int (z3 + (-1 : Int32))), (0, .ref (be θ + x0)), (1, .int x1), (2, .int x2)]) rfl ?_
        refine g_goto (tgt := 5) X dX7_billRow_45 (by decide) ?_
        have hk := inl_hk h hk
        exact g_sub (lv' := [(0, .ref (be θ + x0)), (1, .int x1), (2, .int x2), (3, .int (z3 + (-1 : Int32))), (4, .int (z4 + (1 : Int32)))]) [2, 3, 4, 1, 0] rfl hk
      · replace h := (if_pos c4).symm.trans h
        refine g_iload X dX7_billRow_34 4 rfl ?_
        refine g_iconst X dX7_billRow_36 (v := (4 : Int32)) ic_4 ?_
        refine g_imul X dX7_billRow_37 ?_
        have hk := inr_hk h hk
        have hk : (z4 * (4 : Int32)) = r := hk
        subst hk
        exact g_iret X hr hlk dX7_billRow_38 rfl
    · replace h := (if_neg c3).symm.trans h
      refine g_goto (tgt := 42) X dX7_billRow_27 (by decide) ?_
      refine g_iinc X dX7_billRow_42 (kq := 4) rfl (congrArg (HAdd.hAdd _) ic_1) (by decide) (lv' := [(4, .int (z4 + (1 : Int32))), (0, .ref (be θ + x0)), (1, .int x1), (2, .int x2), (3, .int z3)]) rfl ?_
      refine g_goto (tgt := 5) X dX7_billRow_45 (by decide) ?_
      have hk := inl_hk h hk
      exact g_sub (lv' := [(0, .ref (be θ + x0)), (1, .int x1), (2, .int x2), (3, .int z3), (4, .int (z4 + (1 : Int32)))]) [1, 2, 3, 4, 0] rfl hk
set_option maxHeartbeats 4000000 in
set_option maxRecDepth 20000 in
theorem gl_State_billRow_L5 (X : Cx θ p s m args c cX7_billRow 5 RX7) (hr : meth.sig.returnType = some .int) (hlk : meth.locks = false)  {σ : Mem} {x0 : Nat} {x1 : Int32} {x2 : Int32} {r : Int32} (h0 : kd x0 = 8) (n : Nat) (a : Int32 × Int32) (b : Int32) (h : loopF (f_State_billRow_L5 σ x0 x1 x2) n a = some b) (hk : (fun b => b = r) b) : (fun a => @Prod.casesOn (Int32) (Int32) (fun _ => Prop) a fun z3 z4 => GB θ p l e 0 s m args below meth c 5 (some (.int r), σ) 5 [(0, .ref (be θ + x0)), (1, .int x1), (2, .int x2), (3, .int z3), (4, .int z4)] [] σ) a :=
  loopF_by (P := (fun a => @Prod.casesOn (Int32) (Int32) (fun _ => Prop) a fun z3 z4 => GB θ p l e 0 s m args below meth c 5 (some (.int r), σ) 5 [(0, .ref (be θ + x0)), (1, .int x1), (2, .int x2), (3, .int z3), (4, .int z4)] [] σ)) (K := (fun b => b = r)) (fun a x h hk => by obtain ⟨z3, z4⟩ := a; exact gs_State_billRow_L5 X hr hlk  h0 z3 z4 x h hk) n a b h hk
set_option maxHeartbeats 4000000 in
set_option maxRecDepth 20000 in
theorem g_State_billRow (X : Cx θ p s m args c cX7_billRow 5 RX7) (hr : meth.sig.returnType = some .int) (hlk : meth.locks = false)  {σ : Mem} {x0 : Nat} {x1 : Int32} {x2 : Int32} {r : Int32} (h0 : kd x0 = 8) (h : f_State_billRow σ x0 x1 x2 = some r) : GB θ p l e 0 s m args below meth c 5 (some (.int r), σ) 0 [(0, .ref (be θ + x0)), (1, .int x1), (2, .int x2)] [] σ := by
  unfold f_State_billRow at h
  refine g_iload_n X dX7_billRow_0 rfl 2 rfl ?_
  refine g_istore_n X dX7_billRow_1 rfl (by decide) (lv' := [(3, .int x2), (0, .ref (be θ + x0)), (1, .int x1), (2, .int x2)]) rfl ?_
  refine g_iconst X dX7_billRow_2 (v := (0 : Int32)) ic_0 ?_
  refine g_istore X dX7_billRow_3 (by decide) (lv' := [(4, .int (0 : Int32)), (3, .int x2), (0, .ref (be θ + x0)), (1, .int x1), (2, .int x2)]) rfl ?_
  exact g_sub (lv' := [(0, .ref (be θ + x0)), (1, .int x1), (2, .int x2), (3, .int x2), (4, .int (0 : Int32))]) [2, 3, 4, 1, 0] rfl (gl_State_billRow_L5 X hr hlk  h0  FU _ _ h rfl)
set_option maxHeartbeats 4000000 in
set_option maxRecDepth 20000 in
theorem c_State_billRow {θ : Th} {l : Launch} {σ : Mem} {x0 : Nat} {x1 : Int32} {x2 : Int32} {r : Int32} (h0 : kd x0 = 8) (h : f_State_billRow σ x0 x1 x2 = some r) : Cn θ l yX7_billRow cX7_billRow 5 (some .int) 0 0 0 [.ref (be θ + x0), .int x1, .int x2] σ (some (.int r), σ) :=
  Cn.of (by decide) (Nat.le_of_ble_eq_true rfl) (fun p e s m below meth c X hr hlk => g_State_billRow X hr hlk h0 h)
theorem dX8_bytesIn_0 : decode cX8_bytesIn 0 = .ok (.iconst 0, 1) := by decide +kernel
theorem dX8_bytesIn_1 : decode cX8_bytesIn 1 = .ok (.istore_n 2, 1) := by decide +kernel
theorem dX8_bytesIn_2 : decode cX8_bytesIn 2 = .ok (.bipush 24, 2) := by decide +kernel
theorem dX8_bytesIn_4 : decode cX8_bytesIn 4 = .ok (.istore_n 3, 1) := by decide +kernel
theorem dX8_bytesIn_5 : decode cX8_bytesIn 5 = .ok (.iload_n 3, 1) := by decide +kernel
theorem dX8_bytesIn_6 : decode cX8_bytesIn 6 = .ok (.ifCond .lt 22, 3) := by decide +kernel
theorem dX8_bytesIn_9 : decode cX8_bytesIn 9 = .ok (.iload_n 1, 1) := by decide +kernel
theorem dX8_bytesIn_10 : decode cX8_bytesIn 10 = .ok (.iload_n 3, 1) := by decide +kernel
theorem dX8_bytesIn_11 : decode cX8_bytesIn 11 = .ok (.iushr, 1) := by decide +kernel
theorem dX8_bytesIn_12 : decode cX8_bytesIn 12 = .ok (.sipush 255, 3) := by decide +kernel
theorem dX8_bytesIn_15 : decode cX8_bytesIn 15 = .ok (.iand, 1) := by decide +kernel
theorem dX8_bytesIn_16 : decode cX8_bytesIn 16 = .ok (.ifCond .eq 6, 3) := by decide +kernel
theorem dX8_bytesIn_19 : decode cX8_bytesIn 19 = .ok (.iinc 2 1, 3) := by decide +kernel
theorem dX8_bytesIn_22 : decode cX8_bytesIn 22 = .ok (.iinc 3 (-8), 3) := by decide +kernel
theorem dX8_bytesIn_25 : decode cX8_bytesIn 25 = .ok (.goto (-20), 3) := by decide +kernel
theorem dX8_bytesIn_28 : decode cX8_bytesIn 28 = .ok (.iload_n 2, 1) := by decide +kernel
theorem dX8_bytesIn_29 : decode cX8_bytesIn 29 = .ok (.ireturn, 1) := by decide +kernel
def f_Tape_bytesIn_L5 (σ : Mem) (x1 : Int32) (a : Int32 × Int32) : Option ((Int32 × Int32) ⊕ (Int32)) :=
  @Prod.casesOn (Int32) (Int32) (fun _ => Option ((Int32 × Int32) ⊕ (Int32))) a fun z2 z3 =>
  if z3 < (0 : Int32) then
    some (.inr z2)
  else
    if ((iush x1 z3) &&& (255 : Int32)) = (0 : Int32) then
      some (.inl (z2, (z3 + (-8 : Int32))))
    else
      some (.inl ((z2 + (1 : Int32)), (z3 + (-8 : Int32))))
def f_Tape_bytesIn (σ : Mem) (x1 : Int32) : Option (Int32) :=
  loopF (f_Tape_bytesIn_L5 σ x1) FU ((0 : Int32), (24 : Int32))
set_option maxHeartbeats 4000000 in
set_option maxRecDepth 20000 in
theorem gs_Tape_bytesIn_L5 (X : Cx θ p s m args c cX8_bytesIn 4 RX8) (hr : meth.sig.returnType = some .int) (hlk : meth.locks = false)  {σ : Mem} {x1 : Int32} {r : Int32}  (z2 : Int32) (z3 : Int32) (x : (Int32 × Int32) ⊕ (Int32)) (h : f_Tape_bytesIn_L5 σ x1 (z2, z3) = some x) (hk : Sum.elim (fun a => @Prod.casesOn (Int32) (Int32) (fun _ => Prop) a fun z2 z3 => GB θ p l e 0 s m args below meth c 4 (some (.int r), σ) 5 [(0, .ref (be θ + 1)), (1, .int x1), (2, .int z2), (3, .int z3)] [] σ) (fun b => b = r) x) : GB θ p l e 0 s m args below meth c 4 (some (.int r), σ) 5 [(0, .ref (be θ + 1)), (1, .int x1), (2, .int z2), (3, .int z3)] [] σ := by
  unfold f_Tape_bytesIn_L5 at h
  dsimp only at h
  refine g_iload_n X dX8_bytesIn_5 rfl 3 rfl ?_
  refine g_if_lt (tgt := 28) X dX8_bytesIn_6 (by decide) (fun c1 => ?_) (fun c1 => ?_)
  · replace h := (if_pos c1).symm.trans h
    refine g_iload_n X dX8_bytesIn_28 rfl 2 rfl ?_
    have hk := inr_hk h hk
    have hk : z2 = r := hk
    subst hk
    exact g_iret X hr hlk dX8_bytesIn_29 rfl
  · replace h := (if_neg c1).symm.trans h
    refine g_iload_n X dX8_bytesIn_9 rfl 1 rfl ?_
    refine g_iload_n X dX8_bytesIn_10 rfl 3 rfl ?_
    refine g_iushr X dX8_bytesIn_11 (v := (iush x1 z3)) rfl ?_
    refine g_sipush X dX8_bytesIn_12 (v := (255 : Int32)) sp_255 ?_
    refine g_iand X dX8_bytesIn_15 ?_
    refine g_if_eq (tgt := 22) X dX8_bytesIn_16 (by decide) (fun c2 => ?_) (fun c2 => ?_)
    · replace h := (if_pos c2).symm.trans h
      refine g_iinc X dX8_bytesIn_22 (kq := 3) rfl (congrArg (HAdd.hAdd _) ic_m8) (by decide) (lv' := [(3, .int (z3 + (-8 : Int32))), (0, .ref (be θ + 1)), (1, .int x1), (2, .int z2)]) rfl ?_
      refine g_goto (tgt := 5) X dX8_bytesIn_25 (by decide) ?_
      have hk := inl_hk h hk
      exact g_sub (lv' := [(0, .ref (be θ + 1)), (1, .int x1), (2, .int z2), (3, .int (z3 + (-8 : Int32)))]) [1, 2, 3, 0] rfl hk
    · replace h := (if_neg c2).symm.trans h
      refine g_iinc X dX8_bytesIn_19 (kq := 2) rfl (congrArg (HAdd.hAdd _) ic_1) (by decide) (lv' := [(2, .int (z2 + (1 : Int32))), (0, .ref (be θ + 1)), (1, .int x1), (3, .int z3)]) rfl ?_
      refine g_iinc X dX8_bytesIn_22 (kq := 3) rfl (congrArg (HAdd.hAdd _) ic_m8) (by decide) (lv' := [(3, .int (z3 + (-8 : Int32))), (2, .int (z2 + (1 : Int32))), (0, .ref (be θ + 1)), (1, .int x1)]) rfl ?_
      refine g_goto (tgt := 5) X dX8_bytesIn_25 (by decide) ?_
      have hk := inl_hk h hk
      exact g_sub (lv' := [(0, .ref (be θ + 1)), (1, .int x1), (2, .int (z2 + (1 : Int32))), (3, .int (z3 + (-8 : Int32)))]) [2, 3, 1, 0] rfl hk
set_option maxHeartbeats 4000000 in
set_option maxRecDepth 20000 in
theorem gl_Tape_bytesIn_L5 (X : Cx θ p s m args c cX8_bytesIn 4 RX8) (hr : meth.sig.returnType = some .int) (hlk : meth.locks = false)  {σ : Mem} {x1 : Int32} {r : Int32}  (n : Nat) (a : Int32 × Int32) (b : Int32) (h : loopF (f_Tape_bytesIn_L5 σ x1) n a = some b) (hk : (fun b => b = r) b) : (fun a => @Prod.casesOn (Int32) (Int32) (fun _ => Prop) a fun z2 z3 => GB θ p l e 0 s m args below meth c 4 (some (.int r), σ) 5 [(0, .ref (be θ + 1)), (1, .int x1), (2, .int z2), (3, .int z3)] [] σ) a :=
  loopF_by (P := (fun a => @Prod.casesOn (Int32) (Int32) (fun _ => Prop) a fun z2 z3 => GB θ p l e 0 s m args below meth c 4 (some (.int r), σ) 5 [(0, .ref (be θ + 1)), (1, .int x1), (2, .int z2), (3, .int z3)] [] σ)) (K := (fun b => b = r)) (fun a x h hk => by obtain ⟨z2, z3⟩ := a; exact gs_Tape_bytesIn_L5 X hr hlk   z2 z3 x h hk) n a b h hk
set_option maxHeartbeats 4000000 in
set_option maxRecDepth 20000 in
theorem g_Tape_bytesIn (X : Cx θ p s m args c cX8_bytesIn 4 RX8) (hr : meth.sig.returnType = some .int) (hlk : meth.locks = false)  {σ : Mem} {x1 : Int32} {r : Int32}  (h : f_Tape_bytesIn σ x1 = some r) : GB θ p l e 0 s m args below meth c 4 (some (.int r), σ) 0 [(0, .ref (be θ + 1)), (1, .int x1)] [] σ := by
  unfold f_Tape_bytesIn at h
  refine g_iconst X dX8_bytesIn_0 (v := (0 : Int32)) ic_0 ?_
  refine g_istore_n X dX8_bytesIn_1 rfl (by decide) (lv' := [(2, .int (0 : Int32)), (0, .ref (be θ + 1)), (1, .int x1)]) rfl ?_
  refine g_bipush X dX8_bytesIn_2 (v := (24 : Int32)) bp_24 ?_
  refine g_istore_n X dX8_bytesIn_4 rfl (by decide) (lv' := [(3, .int (24 : Int32)), (2, .int (0 : Int32)), (0, .ref (be θ + 1)), (1, .int x1)]) rfl ?_
  exact g_sub (lv' := [(0, .ref (be θ + 1)), (1, .int x1), (2, .int (0 : Int32)), (3, .int (24 : Int32))]) [2, 3, 1, 0] rfl (gl_Tape_bytesIn_L5 X hr hlk    FU _ _ h rfl)
set_option maxHeartbeats 4000000 in
set_option maxRecDepth 20000 in
theorem c_Tape_bytesIn {θ : Th} {l : Launch} {σ : Mem} {x1 : Int32} {r : Int32}  (h : f_Tape_bytesIn σ x1 = some r) : Cn θ l yX8_bytesIn cX8_bytesIn 4 (some .int) 0 0 0 [.ref (be θ + 1), .int x1] σ (some (.int r), σ) :=
  Cn.of (by decide) (Nat.le_of_ble_eq_true rfl) (fun p e s m below meth c X hr hlk => g_Tape_bytesIn X hr hlk  h)
theorem dX8_add_0 : decode cX8_add 0 = .ok (.bipush 24, 2) := by decide +kernel
theorem dX8_add_2 : decode cX8_add 2 = .ok (.istore_n 2, 1) := by decide +kernel
theorem dX8_add_3 : decode cX8_add 3 = .ok (.iload_n 2, 1) := by decide +kernel
theorem dX8_add_4 : decode cX8_add 4 = .ok (.ifCond .lt 51, 3) := by decide +kernel
theorem dX8_add_7 : decode cX8_add 7 = .ok (.iload_n 1, 1) := by decide +kernel
theorem dX8_add_8 : decode cX8_add 8 = .ok (.iload_n 2, 1) := by decide +kernel
theorem dX8_add_9 : decode cX8_add 9 = .ok (.iushr, 1) := by decide +kernel
theorem dX8_add_10 : decode cX8_add 10 = .ok (.sipush 255, 3) := by decide +kernel
theorem dX8_add_13 : decode cX8_add 13 = .ok (.iand, 1) := by decide +kernel
theorem dX8_add_14 : decode cX8_add 14 = .ok (.istore_n 3, 1) := by decide +kernel
theorem dX8_add_15 : decode cX8_add 15 = .ok (.iload_n 3, 1) := by decide +kernel
theorem dX8_add_16 : decode cX8_add 16 = .ok (.ifCond .eq 33, 3) := by decide +kernel
theorem dX8_add_19 : decode cX8_add 19 = .ok (.aload_n 0, 1) := by decide +kernel
theorem dX8_add_20 : decode cX8_add 20 = .ok (.getfield 15, 3) := by decide +kernel
theorem dX8_add_23 : decode cX8_add 23 = .ok (.sipush 240, 3) := by decide +kernel
theorem dX8_add_26 : decode cX8_add 26 = .ok (.if_icmp .ge 23, 3) := by decide +kernel
theorem dX8_add_29 : decode cX8_add 29 = .ok (.aload_n 0, 1) := by decide +kernel
theorem dX8_add_30 : decode cX8_add 30 = .ok (.getfield 9, 3) := by decide +kernel
theorem dX8_add_33 : decode cX8_add 33 = .ok (.aload_n 0, 1) := by decide +kernel
theorem dX8_add_34 : decode cX8_add 34 = .ok (.getfield 15, 3) := by decide +kernel
theorem dX8_add_37 : decode cX8_add 37 = .ok (.iload_n 3, 1) := by decide +kernel
theorem dX8_add_38 : decode cX8_add 38 = .ok (.iastore, 1) := by decide +kernel
theorem dX8_add_39 : decode cX8_add 39 = .ok (.aload_n 0, 1) := by decide +kernel
theorem dX8_add_40 : decode cX8_add 40 = .ok (.dup, 1) := by decide +kernel
theorem dX8_add_41 : decode cX8_add 41 = .ok (.getfield 15, 3) := by decide +kernel
theorem dX8_add_44 : decode cX8_add 44 = .ok (.iconst 1, 1) := by decide +kernel
theorem dX8_add_45 : decode cX8_add 45 = .ok (.iadd, 1) := by decide +kernel
theorem dX8_add_46 : decode cX8_add 46 = .ok (.putfield 15, 3) := by decide +kernel
theorem dX8_add_49 : decode cX8_add 49 = .ok (.iinc 2 (-8), 3) := by decide +kernel
theorem dX8_add_52 : decode cX8_add 52 = .ok (.goto (-49), 3) := by decide +kernel
theorem dX8_add_55 : decode cX8_add 55 = .ok (.return_, 1) := by decide +kernel
def f_Tape_add_L3 (x1 : Int32) (a : Mem × Int32) : Option ((Mem × Int32) ⊕ (Mem)) :=
  @Prod.casesOn (Mem) (Int32) (fun _ => Option ((Mem × Int32) ⊕ (Mem))) a fun τ z2 =>
  if z2 < (0 : Int32) then
    some (.inr τ)
  else
    if ((iush x1 z2) &&& (255 : Int32)) = (0 : Int32) then
      some (.inl (τ, (z2 + (-8 : Int32))))
    else
      if (240 : Int32) ≤ (mI τ 1 1) then
        some (.inl (τ, (z2 + (-8 : Int32))))
      else
        if inb (mI τ 1 1) 240 then
          some (.inl ((sI (sI τ 2 (mI τ 1 1).toNatClampNeg ((iush x1 z2) &&& (255 : Int32))) 1 1 ((mI (sI τ 2 (mI τ 1 1).toNatClampNeg ((iush x1 z2) &&& (255 : Int32))) 1 1) + (1 : Int32))), (z2 + (-8 : Int32))))
        else none
def f_Tape_add (σ : Mem) (x1 : Int32) : Option (Mem) :=
  loopF (f_Tape_add_L3 x1) FU (σ, (24 : Int32))
set_option maxHeartbeats 4000000 in
set_option maxRecDepth 20000 in
theorem gs_Tape_add_L3 (X : Cx θ p s m args c cX8_add 4 RX8) (hr : meth.sig.returnType = none) (hlk : meth.locks = false)  {x1 : Int32} {r : Mem}  (τ : Mem) (z2 : Int32) (x : (Mem × Int32) ⊕ (Mem)) (h : f_Tape_add_L3 x1 (τ, z2) = some x) (hk : Sum.elim (fun a => @Prod.casesOn (Mem) (Int32) (fun _ => Prop) a fun τ z2 => GB θ p l e 0 s m args below meth c 4 (none, r) 3 [(0, .ref (be θ + 1)), (1, .int x1), (2, .int z2)] [] τ) (fun b => b = r) x) : GB θ p l e 0 s m args below meth c 4 (none, r) 3 [(0, .ref (be θ + 1)), (1, .int x1), (2, .int z2)] [] τ := by
  unfold f_Tape_add_L3 at h
  dsimp only at h
  refine g_iload_n X dX8_add_3 rfl 2 rfl ?_
  refine g_if_lt (tgt := 55) X dX8_add_4 (by decide) (fun c1 => ?_) (fun c1 => ?_)
  · replace h := (if_pos c1).symm.trans h
    have hk := inr_hk h hk
    have hk : τ = r := hk
    subst hk
    exact g_vret X hr hlk dX8_add_55 rfl
  · replace h := (if_neg c1).symm.trans h
    refine g_iload_n X dX8_add_7 rfl 1 rfl ?_
    refine g_iload_n X dX8_add_8 rfl 2 rfl ?_
    refine g_iushr X dX8_add_9 (v := (iush x1 z2)) rfl ?_
    refine g_sipush X dX8_add_10 (v := (255 : Int32)) sp_255 ?_
    refine g_iand X dX8_add_13 ?_
    refine g_istore_n X dX8_add_14 rfl (by decide) (lv' := [(3, .int ((iush x1 z2) &&& (255 : Int32))), (0, .ref (be θ + 1)), (1, .int x1), (2, .int z2)]) rfl ?_
    refine g_iload_n X dX8_add_15 rfl 0 rfl ?_
    refine g_if_eq (tgt := 49) X dX8_add_16 (by decide) (fun c2 => ?_) (fun c2 => ?_)
    · replace h := (if_pos c2).symm.trans h
      refine g_iinc X dX8_add_49 (kq := 3) rfl (congrArg (HAdd.hAdd _) ic_m8) (by decide) (lv' := [(2, .int (z2 + (-8 : Int32))), (3, .int ((iush x1 z2) &&& (255 : Int32))), (0, .ref (be θ + 1)), (1, .int x1)]) rfl ?_
      refine g_goto (tgt := 3) X dX8_add_52 (by decide) ?_
      have hk := inl_hk h hk
      exact g_sub (lv' := [(0, .ref (be θ + 1)), (1, .int x1), (2, .int (z2 + (-8 : Int32)))]) [2, 3, 0] rfl hk
    · replace h := (if_neg c2).symm.trans h
      refine g_aload_n X dX8_add_19 rfl 1 rfl ?_
      refine g_get X fl_RX8_15 dX8_add_20 kd_1 (v := .int (mI τ 1 1)) rfl ?_
      refine g_sipush X dX8_add_23 (v := (240 : Int32)) sp_240 ?_
      refine g_icmp_ge (tgt := 49) X dX8_add_26 (by decide) (fun c3 => ?_) (fun c3 => ?_)
      · replace h := (if_pos c3).symm.trans h
        refine g_iinc X dX8_add_49 (kq := 3) rfl (congrArg (HAdd.hAdd _) ic_m8) (by decide) (lv' := [(2, .int (z2 + (-8 : Int32))), (3, .int ((iush x1 z2) &&& (255 : Int32))), (0, .ref (be θ + 1)), (1, .int x1)]) rfl ?_
        refine g_goto (tgt := 3) X dX8_add_52 (by decide) ?_
        have hk := inl_hk h hk
        exact g_sub (lv' := [(0, .ref (be θ + 1)), (1, .int x1), (2, .int (z2 + (-8 : Int32)))]) [2, 3, 0] rfl hk
      · replace h := (if_neg c3).symm.trans h
        refine g_aload_n X dX8_add_29 rfl 1 rfl ?_
        refine g_get X fl_RX8_9 dX8_add_30 kd_1 (v := .ref (be θ + 2)) rfl ?_
        refine g_aload_n X dX8_add_33 rfl 1 rfl ?_
        refine g_get X fl_RX8_15 dX8_add_34 kd_1 (v := .int (mI τ 1 1)) rfl ?_
        refine g_iload_n X dX8_add_37 rfl 0 rfl ?_
        obtain ⟨g4, h⟩ := ite_some h
        refine g_iast X kd_2 ln_2 (inb_in g4) dX8_add_38 ?_
        refine g_aload_n X dX8_add_39 rfl 1 rfl ?_
        refine g_dup X dX8_add_40 rfl ?_
        refine g_get X fl_RX8_15 dX8_add_41 kd_1 (v := .int (mI (sI τ 2 (mI τ 1 1).toNatClampNeg ((iush x1 z2) &&& (255 : Int32))) 1 1)) rfl ?_
        refine g_iconst X dX8_add_44 (v := (1 : Int32)) ic_1 ?_
        refine g_iadd X dX8_add_45 ?_
        refine g_putI X fl_RX8_15 dX8_add_46 kd_1 rfl rfl rfl ?_
        refine g_iinc X dX8_add_49 (kq := 3) rfl (congrArg (HAdd.hAdd _) ic_m8) (by decide) (lv' := [(2, .int (z2 + (-8 : Int32))), (3, .int ((iush x1 z2) &&& (255 : Int32))), (0, .ref (be θ + 1)), (1, .int x1)]) rfl ?_
        refine g_goto (tgt := 3) X dX8_add_52 (by decide) ?_
        have hk := inl_hk h hk
        exact g_sub (lv' := [(0, .ref (be θ + 1)), (1, .int x1), (2, .int (z2 + (-8 : Int32)))]) [2, 3, 0] rfl hk
set_option maxHeartbeats 4000000 in
set_option maxRecDepth 20000 in
theorem gl_Tape_add_L3 (X : Cx θ p s m args c cX8_add 4 RX8) (hr : meth.sig.returnType = none) (hlk : meth.locks = false)  {x1 : Int32} {r : Mem}  (n : Nat) (a : Mem × Int32) (b : Mem) (h : loopF (f_Tape_add_L3 x1) n a = some b) (hk : (fun b => b = r) b) : (fun a => @Prod.casesOn (Mem) (Int32) (fun _ => Prop) a fun τ z2 => GB θ p l e 0 s m args below meth c 4 (none, r) 3 [(0, .ref (be θ + 1)), (1, .int x1), (2, .int z2)] [] τ) a :=
  loopF_by (P := (fun a => @Prod.casesOn (Mem) (Int32) (fun _ => Prop) a fun τ z2 => GB θ p l e 0 s m args below meth c 4 (none, r) 3 [(0, .ref (be θ + 1)), (1, .int x1), (2, .int z2)] [] τ)) (K := (fun b => b = r)) (fun a x h hk => by obtain ⟨τ, z2⟩ := a; exact gs_Tape_add_L3 X hr hlk   τ z2 x h hk) n a b h hk
set_option maxHeartbeats 4000000 in
set_option maxRecDepth 20000 in
theorem g_Tape_add (X : Cx θ p s m args c cX8_add 4 RX8) (hr : meth.sig.returnType = none) (hlk : meth.locks = false)  {σ : Mem} {x1 : Int32} {r : Mem}  (h : f_Tape_add σ x1 = some r) : GB θ p l e 0 s m args below meth c 4 (none, r) 0 [(0, .ref (be θ + 1)), (1, .int x1)] [] σ := by
  unfold f_Tape_add at h
  refine g_bipush X dX8_add_0 (v := (24 : Int32)) bp_24 ?_
  refine g_istore_n X dX8_add_2 rfl (by decide) (lv' := [(2, .int (24 : Int32)), (0, .ref (be θ + 1)), (1, .int x1)]) rfl ?_
  exact g_sub (lv' := [(0, .ref (be θ + 1)), (1, .int x1), (2, .int (24 : Int32))]) [1, 2, 0] rfl (gl_Tape_add_L3 X hr hlk    FU _ _ h rfl)
set_option maxHeartbeats 4000000 in
set_option maxRecDepth 20000 in
theorem c_Tape_add {θ : Th} {l : Launch} {σ : Mem} {x1 : Int32} {r : Mem}  (h : f_Tape_add σ x1 = some r) : Cn θ l yX8_add cX8_add 4 (none) 0 0 0 [.ref (be θ + 1), .int x1] σ (none, r) :=
  Cn.of (by decide) (Nat.le_of_ble_eq_true rfl) (fun p e s m below meth c X hr hlk => g_Tape_add X hr hlk  h)
theorem dX9_hasCity_0 : decode cX9_hasCity 0 = .ok (.aload_n 0, 1) := by decide +kernel
theorem dX9_hasCity_1 : decode cX9_hasCity 1 = .ok (.getfield 24, 3) := by decide +kernel
theorem dX9_hasCity_4 : decode cX9_hasCity 4 = .ok (.getfield 32, 3) := by decide +kernel
theorem dX9_hasCity_7 : decode cX9_hasCity 7 = .ok (.ifCond .le 7, 3) := by decide +kernel
theorem dX9_hasCity_10 : decode cX9_hasCity 10 = .ok (.iconst 1, 1) := by decide +kernel
theorem dX9_hasCity_11 : decode cX9_hasCity 11 = .ok (.goto 4, 3) := by decide +kernel
theorem dX9_hasCity_14 : decode cX9_hasCity 14 = .ok (.iconst 0, 1) := by decide +kernel
theorem dX9_hasCity_15 : decode cX9_hasCity 15 = .ok (.ireturn, 1) := by decide +kernel
def f_Trade_hasCity (σ : Mem)  : Option (Int32) :=
  if kd (mR σ 428 1) = 2 then
    if (mI σ (mR σ 428 1) 3) ≤ (0 : Int32) then
      some (0 : Int32)
    else
      some (1 : Int32)
  else none
set_option maxHeartbeats 4000000 in
set_option maxRecDepth 20000 in
theorem g_Trade_hasCity (X : Cx θ p s m args c cX9_hasCity 1 RX9) (hr : meth.sig.returnType = some .boolean) (hlk : meth.locks = false)  {σ : Mem}  {r : Int32}  (h : f_Trade_hasCity σ  = some r) : GB θ p l e 0 s m args below meth c 1 (some (.int r), σ) 0 [(0, .ref (be θ + 428))] [] σ := by
  unfold f_Trade_hasCity at h
  refine g_aload_n X dX9_hasCity_0 rfl 0 rfl ?_
  refine g_get X fl_RX9_24 dX9_hasCity_1 kd_428 (v := rv (be θ) (mR σ 428 1)) rfl ?_
  obtain ⟨g1, h⟩ := ite_some h
  rw [← rv_of (β := be θ) g1 (by decide)]
  refine g_get X fl_RX9_32 dX9_hasCity_4 g1 (v := .int (mI σ (mR σ 428 1) 3)) rfl ?_
  refine g_if_le (tgt := 14) X dX9_hasCity_7 (by decide) (fun c2 => ?_) (fun c2 => ?_)
  · replace h := (if_pos c2).symm.trans h
    refine g_iconst X dX9_hasCity_14 (v := (0 : Int32)) ic_0 ?_
    exact g_zret X hr hlk bz0 dX9_hasCity_15 (by cases h; rfl)
  · replace h := (if_neg c2).symm.trans h
    refine g_iconst X dX9_hasCity_10 (v := (1 : Int32)) ic_1 ?_
    refine g_goto (tgt := 15) X dX9_hasCity_11 (by decide) ?_
    exact g_zret X hr hlk bz1 dX9_hasCity_15 (by cases h; rfl)
set_option maxHeartbeats 4000000 in
set_option maxRecDepth 20000 in
theorem c_Trade_hasCity {θ : Th} {l : Launch} {σ : Mem}  {r : Int32}  (h : f_Trade_hasCity σ  = some r) : Cn θ l yX9_hasCity cX9_hasCity 1 (some .boolean) 0 0 0 [.ref (be θ + 428)] σ (some (.int r), σ) :=
  Cn.of (by decide) (Nat.le_of_ble_eq_true rfl) (fun p e s m below meth c X hr hlk => g_Trade_hasCity X hr hlk  h)
theorem dX9_isThing_0 : decode cX9_isThing 0 = .ok (.iload_n 1, 1) := by decide +kernel
theorem dX9_isThing_1 : decode cX9_isThing 1 = .ok (.ifCond .lt 18, 3) := by decide +kernel
theorem dX9_isThing_4 : decode cX9_isThing 4 = .ok (.iload_n 1, 1) := by decide +kernel
theorem dX9_isThing_5 : decode cX9_isThing 5 = .ok (.aload_n 0, 1) := by decide +kernel
theorem dX9_isThing_6 : decode cX9_isThing 6 = .ok (.getfield 24, 3) := by decide +kernel
theorem dX9_isThing_9 : decode cX9_isThing 9 = .ok (.getfield 32, 3) := by decide +kernel
theorem dX9_isThing_12 : decode cX9_isThing 12 = .ok (.if_icmp .ge 7, 3) := by decide +kernel
theorem dX9_isThing_15 : decode cX9_isThing 15 = .ok (.iconst 1, 1) := by decide +kernel
theorem dX9_isThing_16 : decode cX9_isThing 16 = .ok (.goto 4, 3) := by decide +kernel
theorem dX9_isThing_19 : decode cX9_isThing 19 = .ok (.iconst 0, 1) := by decide +kernel
theorem dX9_isThing_20 : decode cX9_isThing 20 = .ok (.ireturn, 1) := by decide +kernel
def f_Trade_isThing (σ : Mem) (x1 : Int32) : Option (Int32) :=
  if x1 < (0 : Int32) then
    some (0 : Int32)
  else
    if kd (mR σ 428 1) = 2 then
      if (mI σ (mR σ 428 1) 3) ≤ x1 then
        some (0 : Int32)
      else
        some (1 : Int32)
    else none
set_option maxHeartbeats 4000000 in
set_option maxRecDepth 20000 in
theorem g_Trade_isThing (X : Cx θ p s m args c cX9_isThing 2 RX9) (hr : meth.sig.returnType = some .boolean) (hlk : meth.locks = false)  {σ : Mem} {x1 : Int32} {r : Int32}  (h : f_Trade_isThing σ x1 = some r) : GB θ p l e 0 s m args below meth c 2 (some (.int r), σ) 0 [(0, .ref (be θ + 428)), (1, .int x1)] [] σ := by
  unfold f_Trade_isThing at h
  refine g_iload_n X dX9_isThing_0 rfl 1 rfl ?_
  refine g_if_lt (tgt := 19) X dX9_isThing_1 (by decide) (fun c1 => ?_) (fun c1 => ?_)
  · replace h := (if_pos c1).symm.trans h
    refine g_iconst X dX9_isThing_19 (v := (0 : Int32)) ic_0 ?_
    exact g_zret X hr hlk bz0 dX9_isThing_20 (by cases h; rfl)
  · replace h := (if_neg c1).symm.trans h
    refine g_iload_n X dX9_isThing_4 rfl 1 rfl ?_
    refine g_aload_n X dX9_isThing_5 rfl 0 rfl ?_
    refine g_get X fl_RX9_24 dX9_isThing_6 kd_428 (v := rv (be θ) (mR σ 428 1)) rfl ?_
    obtain ⟨g2, h⟩ := ite_some h
    rw [← rv_of (β := be θ) g2 (by decide)]
    refine g_get X fl_RX9_32 dX9_isThing_9 g2 (v := .int (mI σ (mR σ 428 1) 3)) rfl ?_
    refine g_icmp_ge (tgt := 19) X dX9_isThing_12 (by decide) (fun c3 => ?_) (fun c3 => ?_)
    · replace h := (if_pos c3).symm.trans h
      refine g_iconst X dX9_isThing_19 (v := (0 : Int32)) ic_0 ?_
      exact g_zret X hr hlk bz0 dX9_isThing_20 (by cases h; rfl)
    · replace h := (if_neg c3).symm.trans h
      refine g_iconst X dX9_isThing_15 (v := (1 : Int32)) ic_1 ?_
      refine g_goto (tgt := 20) X dX9_isThing_16 (by decide) ?_
      exact g_zret X hr hlk bz1 dX9_isThing_20 (by cases h; rfl)
set_option maxHeartbeats 4000000 in
set_option maxRecDepth 20000 in
theorem c_Trade_isThing {θ : Th} {l : Launch} {σ : Mem} {x1 : Int32} {r : Int32}  (h : f_Trade_isThing σ x1 = some r) : Cn θ l yX9_isThing cX9_isThing 2 (some .boolean) 0 0 0 [.ref (be θ + 428), .int x1] σ (some (.int r), σ) :=
  Cn.of (by decide) (Nat.le_of_ble_eq_true rfl) (fun p e s m below meth c X hr hlk => g_Trade_isThing X hr hlk  h)
theorem dX9_isBuyer_0 : decode cX9_isBuyer 0 = .ok (.iload_n 1, 1) := by decide +kernel
theorem dX9_isBuyer_1 : decode cX9_isBuyer 1 = .ok (.ifCond .lt 18, 3) := by decide +kernel
theorem dX9_isBuyer_4 : decode cX9_isBuyer 4 = .ok (.iload_n 1, 1) := by decide +kernel
theorem dX9_isBuyer_5 : decode cX9_isBuyer 5 = .ok (.aload_n 0, 1) := by decide +kernel
theorem dX9_isBuyer_6 : decode cX9_isBuyer 6 = .ok (.getfield 24, 3) := by decide +kernel
theorem dX9_isBuyer_9 : decode cX9_isBuyer 9 = .ok (.getfield 36, 3) := by decide +kernel
theorem dX9_isBuyer_12 : decode cX9_isBuyer 12 = .ok (.if_icmp .ge 7, 3) := by decide +kernel
theorem dX9_isBuyer_15 : decode cX9_isBuyer 15 = .ok (.iconst 1, 1) := by decide +kernel
theorem dX9_isBuyer_16 : decode cX9_isBuyer 16 = .ok (.goto 4, 3) := by decide +kernel
theorem dX9_isBuyer_19 : decode cX9_isBuyer 19 = .ok (.iconst 0, 1) := by decide +kernel
theorem dX9_isBuyer_20 : decode cX9_isBuyer 20 = .ok (.ireturn, 1) := by decide +kernel
def f_Trade_isBuyer (σ : Mem) (x1 : Int32) : Option (Int32) :=
  if x1 < (0 : Int32) then
    some (0 : Int32)
  else
    if kd (mR σ 428 1) = 2 then
      if (mI σ (mR σ 428 1) 4) ≤ x1 then
        some (0 : Int32)
      else
        some (1 : Int32)
    else none
set_option maxHeartbeats 4000000 in
set_option maxRecDepth 20000 in
theorem g_Trade_isBuyer (X : Cx θ p s m args c cX9_isBuyer 2 RX9) (hr : meth.sig.returnType = some .boolean) (hlk : meth.locks = false)  {σ : Mem} {x1 : Int32} {r : Int32}  (h : f_Trade_isBuyer σ x1 = some r) : GB θ p l e 0 s m args below meth c 2 (some (.int r), σ) 0 [(0, .ref (be θ + 428)), (1, .int x1)] [] σ := by
  unfold f_Trade_isBuyer at h
  refine g_iload_n X dX9_isBuyer_0 rfl 1 rfl ?_
  refine g_if_lt (tgt := 19) X dX9_isBuyer_1 (by decide) (fun c1 => ?_) (fun c1 => ?_)
  · replace h := (if_pos c1).symm.trans h
    refine g_iconst X dX9_isBuyer_19 (v := (0 : Int32)) ic_0 ?_
    exact g_zret X hr hlk bz0 dX9_isBuyer_20 (by cases h; rfl)
  · replace h := (if_neg c1).symm.trans h
    refine g_iload_n X dX9_isBuyer_4 rfl 1 rfl ?_
    refine g_aload_n X dX9_isBuyer_5 rfl 0 rfl ?_
    refine g_get X fl_RX9_24 dX9_isBuyer_6 kd_428 (v := rv (be θ) (mR σ 428 1)) rfl ?_
    obtain ⟨g2, h⟩ := ite_some h
    rw [← rv_of (β := be θ) g2 (by decide)]
    refine g_get X fl_RX9_36 dX9_isBuyer_9 g2 (v := .int (mI σ (mR σ 428 1) 4)) rfl ?_
    refine g_icmp_ge (tgt := 19) X dX9_isBuyer_12 (by decide) (fun c3 => ?_) (fun c3 => ?_)
    · replace h := (if_pos c3).symm.trans h
      refine g_iconst X dX9_isBuyer_19 (v := (0 : Int32)) ic_0 ?_
      exact g_zret X hr hlk bz0 dX9_isBuyer_20 (by cases h; rfl)
    · replace h := (if_neg c3).symm.trans h
      refine g_iconst X dX9_isBuyer_15 (v := (1 : Int32)) ic_1 ?_
      refine g_goto (tgt := 20) X dX9_isBuyer_16 (by decide) ?_
      exact g_zret X hr hlk bz1 dX9_isBuyer_20 (by cases h; rfl)
set_option maxHeartbeats 4000000 in
set_option maxRecDepth 20000 in
theorem c_Trade_isBuyer {θ : Th} {l : Launch} {σ : Mem} {x1 : Int32} {r : Int32}  (h : f_Trade_isBuyer σ x1 = some r) : Cn θ l yX9_isBuyer cX9_isBuyer 2 (some .boolean) 0 0 0 [.ref (be θ + 428), .int x1] σ (some (.int r), σ) :=
  Cn.of (by decide) (Nat.le_of_ble_eq_true rfl) (fun p e s m below meth c X hr hlk => g_Trade_isBuyer X hr hlk  h)
theorem dX9_whyNotPick_0 : decode cX9_whyNotPick 0 = .ok (.aload_n 0, 1) := by decide +kernel
theorem dX9_whyNotPick_1 : decode cX9_whyNotPick 1 = .ok (.iload_n 2, 1) := by decide +kernel
theorem dX9_whyNotPick_2 : decode cX9_whyNotPick 2 = .ok (.invokevirtual 88, 3) := by decide +kernel
theorem dX9_whyNotPick_5 : decode cX9_whyNotPick 5 = .ok (.ifCond .eq 11, 3) := by decide +kernel
theorem dX9_whyNotPick_8 : decode cX9_whyNotPick 8 = .ok (.aload_n 0, 1) := by decide +kernel
theorem dX9_whyNotPick_9 : decode cX9_whyNotPick 9 = .ok (.iload_n 3, 1) := by decide +kernel
theorem dX9_whyNotPick_10 : decode cX9_whyNotPick 10 = .ok (.invokevirtual 92, 3) := by decide +kernel
theorem dX9_whyNotPick_13 : decode cX9_whyNotPick 13 = .ok (.ifCond .ne 5, 3) := by decide +kernel
theorem dX9_whyNotPick_16 : decode cX9_whyNotPick 16 = .ok (.iconst 0, 1) := by decide +kernel
theorem dX9_whyNotPick_17 : decode cX9_whyNotPick 17 = .ok (.ireturn, 1) := by decide +kernel
theorem dX9_whyNotPick_18 : decode cX9_whyNotPick 18 = .ok (.aload_n 1, 1) := by decide +kernel
theorem dX9_whyNotPick_19 : decode cX9_whyNotPick 19 = .ok (.getfield 95, 3) := by decide +kernel
theorem dX9_whyNotPick_22 : decode cX9_whyNotPick 22 = .ok (.iload_n 3, 1) := by decide +kernel
theorem dX9_whyNotPick_23 : decode cX9_whyNotPick 23 = .ok (.iaload, 1) := by decide +kernel
theorem dX9_whyNotPick_24 : decode cX9_whyNotPick 24 = .ok (.iconst (-1), 1) := by decide +kernel
theorem dX9_whyNotPick_25 : decode cX9_whyNotPick 25 = .ok (.if_icmp .eq 5, 3) := by decide +kernel
theorem dX9_whyNotPick_28 : decode cX9_whyNotPick 28 = .ok (.iconst 2, 1) := by decide +kernel
theorem dX9_whyNotPick_29 : decode cX9_whyNotPick 29 = .ok (.ireturn, 1) := by decide +kernel
theorem dX9_whyNotPick_30 : decode cX9_whyNotPick 30 = .ok (.aload_n 1, 1) := by decide +kernel
theorem dX9_whyNotPick_31 : decode cX9_whyNotPick 31 = .ok (.getfield 98, 3) := by decide +kernel
theorem dX9_whyNotPick_34 : decode cX9_whyNotPick 34 = .ok (.iload_n 2, 1) := by decide +kernel
theorem dX9_whyNotPick_35 : decode cX9_whyNotPick 35 = .ok (.iaload, 1) := by decide +kernel
theorem dX9_whyNotPick_36 : decode cX9_whyNotPick 36 = .ok (.iconst (-1), 1) := by decide +kernel
theorem dX9_whyNotPick_37 : decode cX9_whyNotPick 37 = .ok (.if_icmp .eq 7, 3) := by decide +kernel
theorem dX9_whyNotPick_40 : decode cX9_whyNotPick 40 = .ok (.iconst 3, 1) := by decide +kernel
theorem dX9_whyNotPick_41 : decode cX9_whyNotPick 41 = .ok (.goto 4, 3) := by decide +kernel
theorem dX9_whyNotPick_44 : decode cX9_whyNotPick 44 = .ok (.iconst (-1), 1) := by decide +kernel
theorem dX9_whyNotPick_45 : decode cX9_whyNotPick 45 = .ok (.ireturn, 1) := by decide +kernel
def f_Trade_whyNotPick (σ : Mem) (x1 : Nat) (x2 : Int32) (x3 : Int32) : Option (Int32) :=
  (f_Trade_isBuyer σ x2).bind fun q1 =>
  if q1 = (0 : Int32) then
    some (0 : Int32)
  else
    (f_Trade_isThing σ x3).bind fun q3 =>
    if q3 = (0 : Int32) then
      some (0 : Int32)
    else
      if inb x3 8 then
        if (mI σ (x1 + 1) x3.toNatClampNeg) = (-1 : Int32) then
          if inb x2 6 then
            if (mI σ (x1 + 5) x2.toNatClampNeg) = (-1 : Int32) then
              some (-1 : Int32)
            else
              some (3 : Int32)
          else none
        else
          some (2 : Int32)
      else none
set_option maxHeartbeats 4000000 in
set_option maxRecDepth 20000 in
theorem g_Trade_whyNotPick (X : Cx θ p s m args c cX9_whyNotPick 4 RX9) (hr : meth.sig.returnType = some .int) (hlk : meth.locks = false)  {σ : Mem} {x1 : Nat} {x2 : Int32} {x3 : Int32} {r : Int32} (h1 : kd x1 = 8) (h : f_Trade_whyNotPick σ x1 x2 x3 = some r) : GB θ p l e 1 s m args below meth c 4 (some (.int r), σ) 0 [(0, .ref (be θ + 428)), (1, .ref (be θ + x1)), (2, .int x2), (3, .int x3)] [] σ := by
  unfold f_Trade_whyNotPick at h
  refine g_aload_n X dX9_whyNotPick_0 rfl 0 rfl ?_
  refine g_iload_n X dX9_whyNotPick_1 rfl 2 rfl ?_
  obtain ⟨q1, hq1, h⟩ := Option.bind_eq_some_iff.mp h
  refine g_cV X (c_Trade_isBuyer  hq1) lk_RX9_88 my_X9_isBuyer (a := 428) (ci := 9) kd_428 (by decide) rfl (As := [.int x2]) (rest := []) rfl rfl (Nat.le_of_ble_eq_true rfl) ⟨(Nat.le_of_ble_eq_true rfl), (Nat.le_of_ble_eq_true rfl)⟩ ⟨(Nat.le_of_ble_eq_true rfl), (Nat.le_of_ble_eq_true rfl)⟩ dX9_whyNotPick_2 (st' := [.int q1]) (σ' := σ) rfl rfl ?_
  refine g_if_eq (tgt := 16) X dX9_whyNotPick_5 (by decide) (fun c2 => ?_) (fun c2 => ?_)
  · replace h := (if_pos c2).symm.trans h
    refine g_iconst X dX9_whyNotPick_16 (v := (0 : Int32)) ic_0 ?_
    exact g_iret X hr hlk dX9_whyNotPick_17 (by cases h; rfl)
  · replace h := (if_neg c2).symm.trans h
    refine g_aload_n X dX9_whyNotPick_8 rfl 0 rfl ?_
    refine g_iload_n X dX9_whyNotPick_9 rfl 3 rfl ?_
    obtain ⟨q3, hq3, h⟩ := Option.bind_eq_some_iff.mp h
    refine g_cV X (c_Trade_isThing  hq3) lk_RX9_92 my_X9_isThing (a := 428) (ci := 9) kd_428 (by decide) rfl (As := [.int x3]) (rest := []) rfl rfl (Nat.le_of_ble_eq_true rfl) ⟨(Nat.le_of_ble_eq_true rfl), (Nat.le_of_ble_eq_true rfl)⟩ ⟨(Nat.le_of_ble_eq_true rfl), (Nat.le_of_ble_eq_true rfl)⟩ dX9_whyNotPick_10 (st' := [.int q3]) (σ' := σ) rfl rfl ?_
    refine g_if_ne (tgt := 18) X dX9_whyNotPick_13 (by decide) (fun c4 => ?_) (fun c4 => ?_)
    · replace h := (if_neg c4).symm.trans h
      refine g_aload_n X dX9_whyNotPick_18 rfl 1 rfl ?_
      refine g_get X fl_RX9_95 dX9_whyNotPick_19 h1 (v := .ref (be θ + (x1 + 1))) rfl ?_
      refine g_iload_n X dX9_whyNotPick_22 rfl 3 rfl ?_
      obtain ⟨g5, h⟩ := ite_some h
      refine g_iald X (lk7_0 h1).1 (lk7_0 h1).2 (inb_in g5) dX9_whyNotPick_23 ?_
      refine g_iconst X dX9_whyNotPick_24 (v := (-1 : Int32)) ic_m1 ?_
      refine g_icmp_eq (tgt := 30) X dX9_whyNotPick_25 (by decide) (fun c6 => ?_) (fun c6 => ?_)
      · replace h := (if_pos c6).symm.trans h
        refine g_aload_n X dX9_whyNotPick_30 rfl 1 rfl ?_
        refine g_get X fl_RX9_98 dX9_whyNotPick_31 h1 (v := .ref (be θ + (x1 + 5))) rfl ?_
        refine g_iload_n X dX9_whyNotPick_34 rfl 2 rfl ?_
        obtain ⟨g7, h⟩ := ite_some h
        refine g_iald X (lk7_4 h1).1 (lk7_4 h1).2 (inb_in g7) dX9_whyNotPick_35 ?_
        refine g_iconst X dX9_whyNotPick_36 (v := (-1 : Int32)) ic_m1 ?_
        refine g_icmp_eq (tgt := 44) X dX9_whyNotPick_37 (by decide) (fun c8 => ?_) (fun c8 => ?_)
        · replace h := (if_pos c8).symm.trans h
          refine g_iconst X dX9_whyNotPick_44 (v := (-1 : Int32)) ic_m1 ?_
          exact g_iret X hr hlk dX9_whyNotPick_45 (by cases h; rfl)
        · replace h := (if_neg c8).symm.trans h
          refine g_iconst X dX9_whyNotPick_40 (v := (3 : Int32)) ic_3 ?_
          refine g_goto (tgt := 45) X dX9_whyNotPick_41 (by decide) ?_
          exact g_iret X hr hlk dX9_whyNotPick_45 (by cases h; rfl)
      · replace h := (if_neg c6).symm.trans h
        refine g_iconst X dX9_whyNotPick_28 (v := (2 : Int32)) ic_2 ?_
        exact g_iret X hr hlk dX9_whyNotPick_29 (by cases h; rfl)
    · replace h := (if_pos c4).symm.trans h
      refine g_iconst X dX9_whyNotPick_16 (v := (0 : Int32)) ic_0 ?_
      exact g_iret X hr hlk dX9_whyNotPick_17 (by cases h; rfl)
set_option maxHeartbeats 4000000 in
set_option maxRecDepth 20000 in
theorem c_Trade_whyNotPick {θ : Th} {l : Launch} {σ : Mem} {x1 : Nat} {x2 : Int32} {x3 : Int32} {r : Int32} (h1 : kd x1 = 8) (h : f_Trade_whyNotPick σ x1 x2 x3 = some r) : Cn θ l yX9_whyNotPick cX9_whyNotPick 4 (some .int) 1 0 0 [.ref (be θ + 428), .ref (be θ + x1), .int x2, .int x3] σ (some (.int r), σ) :=
  Cn.of (by decide) (Nat.le_of_ble_eq_true rfl) (fun p e s m below meth c X hr hlk => g_Trade_whyNotPick X hr hlk h1 h)
theorem dX9_whyNotPutBack_0 : decode cX9_whyNotPutBack 0 = .ok (.aload_n 0, 1) := by decide +kernel
theorem dX9_whyNotPutBack_1 : decode cX9_whyNotPutBack 1 = .ok (.iload_n 2, 1) := by decide +kernel
theorem dX9_whyNotPutBack_2 : decode cX9_whyNotPutBack 2 = .ok (.invokevirtual 88, 3) := by decide +kernel
theorem dX9_whyNotPutBack_5 : decode cX9_whyNotPutBack 5 = .ok (.ifCond .ne 5, 3) := by decide +kernel
theorem dX9_whyNotPutBack_8 : decode cX9_whyNotPutBack 8 = .ok (.iconst 0, 1) := by decide +kernel
theorem dX9_whyNotPutBack_9 : decode cX9_whyNotPutBack 9 = .ok (.ireturn, 1) := by decide +kernel
theorem dX9_whyNotPutBack_10 : decode cX9_whyNotPutBack 10 = .ok (.aload_n 1, 1) := by decide +kernel
theorem dX9_whyNotPutBack_11 : decode cX9_whyNotPutBack 11 = .ok (.getfield 98, 3) := by decide +kernel
theorem dX9_whyNotPutBack_14 : decode cX9_whyNotPutBack 14 = .ok (.iload_n 2, 1) := by decide +kernel
theorem dX9_whyNotPutBack_15 : decode cX9_whyNotPutBack 15 = .ok (.iaload, 1) := by decide +kernel
theorem dX9_whyNotPutBack_16 : decode cX9_whyNotPutBack 16 = .ok (.iconst (-1), 1) := by decide +kernel
theorem dX9_whyNotPutBack_17 : decode cX9_whyNotPutBack 17 = .ok (.if_icmp .ne 7, 3) := by decide +kernel
theorem dX9_whyNotPutBack_20 : decode cX9_whyNotPutBack 20 = .ok (.iconst 2, 1) := by decide +kernel
theorem dX9_whyNotPutBack_21 : decode cX9_whyNotPutBack 21 = .ok (.goto 4, 3) := by decide +kernel
theorem dX9_whyNotPutBack_24 : decode cX9_whyNotPutBack 24 = .ok (.iconst (-1), 1) := by decide +kernel
theorem dX9_whyNotPutBack_25 : decode cX9_whyNotPutBack 25 = .ok (.ireturn, 1) := by decide +kernel
def f_Trade_whyNotPutBack (σ : Mem) (x1 : Nat) (x2 : Int32) : Option (Int32) :=
  (f_Trade_isBuyer σ x2).bind fun q1 =>
  if q1 = (0 : Int32) then
    some (0 : Int32)
  else
    if inb x2 6 then
      if (mI σ (x1 + 5) x2.toNatClampNeg) = (-1 : Int32) then
        some (2 : Int32)
      else
        some (-1 : Int32)
    else none
set_option maxHeartbeats 4000000 in
set_option maxRecDepth 20000 in
theorem g_Trade_whyNotPutBack (X : Cx θ p s m args c cX9_whyNotPutBack 3 RX9) (hr : meth.sig.returnType = some .int) (hlk : meth.locks = false)  {σ : Mem} {x1 : Nat} {x2 : Int32} {r : Int32} (h1 : kd x1 = 8) (h : f_Trade_whyNotPutBack σ x1 x2 = some r) : GB θ p l e 1 s m args below meth c 3 (some (.int r), σ) 0 [(0, .ref (be θ + 428)), (1, .ref (be θ + x1)), (2, .int x2)] [] σ := by
  unfold f_Trade_whyNotPutBack at h
  refine g_aload_n X dX9_whyNotPutBack_0 rfl 0 rfl ?_
  refine g_iload_n X dX9_whyNotPutBack_1 rfl 2 rfl ?_
  obtain ⟨q1, hq1, h⟩ := Option.bind_eq_some_iff.mp h
  refine g_cV X (c_Trade_isBuyer  hq1) lk_RX9_88 my_X9_isBuyer (a := 428) (ci := 9) kd_428 (by decide) rfl (As := [.int x2]) (rest := []) rfl rfl (Nat.le_of_ble_eq_true rfl) ⟨(Nat.le_of_ble_eq_true rfl), (Nat.le_of_ble_eq_true rfl)⟩ ⟨(Nat.le_of_ble_eq_true rfl), (Nat.le_of_ble_eq_true rfl)⟩ dX9_whyNotPutBack_2 (st' := [.int q1]) (σ' := σ) rfl rfl ?_
  refine g_if_ne (tgt := 10) X dX9_whyNotPutBack_5 (by decide) (fun c2 => ?_) (fun c2 => ?_)
  · replace h := (if_neg c2).symm.trans h
    refine g_aload_n X dX9_whyNotPutBack_10 rfl 1 rfl ?_
    refine g_get X fl_RX9_98 dX9_whyNotPutBack_11 h1 (v := .ref (be θ + (x1 + 5))) rfl ?_
    refine g_iload_n X dX9_whyNotPutBack_14 rfl 2 rfl ?_
    obtain ⟨g3, h⟩ := ite_some h
    refine g_iald X (lk7_4 h1).1 (lk7_4 h1).2 (inb_in g3) dX9_whyNotPutBack_15 ?_
    refine g_iconst X dX9_whyNotPutBack_16 (v := (-1 : Int32)) ic_m1 ?_
    refine g_icmp_ne (tgt := 24) X dX9_whyNotPutBack_17 (by decide) (fun c4 => ?_) (fun c4 => ?_)
    · replace h := (if_neg c4).symm.trans h
      refine g_iconst X dX9_whyNotPutBack_24 (v := (-1 : Int32)) ic_m1 ?_
      exact g_iret X hr hlk dX9_whyNotPutBack_25 (by cases h; rfl)
    · replace h := (if_pos c4).symm.trans h
      refine g_iconst X dX9_whyNotPutBack_20 (v := (2 : Int32)) ic_2 ?_
      refine g_goto (tgt := 25) X dX9_whyNotPutBack_21 (by decide) ?_
      exact g_iret X hr hlk dX9_whyNotPutBack_25 (by cases h; rfl)
  · replace h := (if_pos c2).symm.trans h
    refine g_iconst X dX9_whyNotPutBack_8 (v := (0 : Int32)) ic_0 ?_
    exact g_iret X hr hlk dX9_whyNotPutBack_9 (by cases h; rfl)
set_option maxHeartbeats 4000000 in
set_option maxRecDepth 20000 in
theorem c_Trade_whyNotPutBack {θ : Th} {l : Launch} {σ : Mem} {x1 : Nat} {x2 : Int32} {r : Int32} (h1 : kd x1 = 8) (h : f_Trade_whyNotPutBack σ x1 x2 = some r) : Cn θ l yX9_whyNotPutBack cX9_whyNotPutBack 3 (some .int) 1 0 0 [.ref (be θ + 428), .ref (be θ + x1), .int x2] σ (some (.int r), σ) :=
  Cn.of (by decide) (Nat.le_of_ble_eq_true rfl) (fun p e s m below meth c X hr hlk => g_Trade_whyNotPutBack X hr hlk h1 h)
end Z11
