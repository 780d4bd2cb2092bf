section Z18
variable {θ : Th} {p : Program} {l : Launch} {e : Env} {s : State} {m : MethodId} {args : Array Value} {below : List Frame} {meth : Method} {c : Code}
theorem dX11_odds_0 : decode cX11_odds 0 = .ok (.aload_n 0, 1) := by decide +kernel
theorem dX11_odds_1 : decode cX11_odds 1 = .ok (.iconst 0, 1) := by decide +kernel
theorem dX11_odds_2 : decode cX11_odds 2 = .ok (.putfield 112, 3) := by decide +kernel
theorem dX11_odds_5 : decode cX11_odds 5 = .ok (.aload_n 0, 1) := by decide +kernel
theorem dX11_odds_6 : decode cX11_odds 6 = .ok (.getfield 310, 3) := by decide +kernel
theorem dX11_odds_9 : decode cX11_odds 9 = .ok (.ifCond .eq 39, 3) := by decide +kernel
theorem dX11_odds_12 : decode cX11_odds 12 = .ok (.iload_n 1, 1) := by decide +kernel
theorem dX11_odds_13 : decode cX11_odds 13 = .ok (.i2l, 1) := by decide +kernel
theorem dX11_odds_14 : decode cX11_odds 14 = .ok (.lconst 0, 1) := by decide +kernel
theorem dX11_odds_15 : decode cX11_odds 15 = .ok (.ldc2_w 415, 3) := by decide +kernel
theorem dX11_odds_18 : decode cX11_odds 18 = .ok (.invokestatic 233, 3) := by decide +kernel
theorem dX11_odds_21 : decode cX11_odds 21 = .ok (.ifCond .eq 27, 3) := by decide +kernel
theorem dX11_odds_24 : decode cX11_odds 24 = .ok (.iload_n 2, 1) := by decide +kernel
theorem dX11_odds_25 : decode cX11_odds 25 = .ok (.i2l, 1) := by decide +kernel
theorem dX11_odds_26 : decode cX11_odds 26 = .ok (.lconst 0, 1) := by decide +kernel
theorem dX11_odds_27 : decode cX11_odds 27 = .ok (.ldc2_w 495, 3) := by decide +kernel
theorem dX11_odds_30 : decode cX11_odds 30 = .ok (.invokestatic 233, 3) := by decide +kernel
theorem dX11_odds_33 : decode cX11_odds 33 = .ok (.ifCond .eq 15, 3) := by decide +kernel
theorem dX11_odds_36 : decode cX11_odds 36 = .ok (.iload_n 3, 1) := by decide +kernel
theorem dX11_odds_37 : decode cX11_odds 37 = .ok (.i2l, 1) := by decide +kernel
theorem dX11_odds_38 : decode cX11_odds 38 = .ok (.lconst 0, 1) := by decide +kernel
theorem dX11_odds_39 : decode cX11_odds 39 = .ok (.ldc2_w 335, 3) := by decide +kernel
theorem dX11_odds_42 : decode cX11_odds 42 = .ok (.invokestatic 233, 3) := by decide +kernel
theorem dX11_odds_45 : decode cX11_odds 45 = .ok (.ifCond .ne 5, 3) := by decide +kernel
theorem dX11_odds_48 : decode cX11_odds 48 = .ok (.iconst (-1), 1) := by decide +kernel
theorem dX11_odds_49 : decode cX11_odds 49 = .ok (.ireturn, 1) := by decide +kernel
theorem dX11_odds_50 : decode cX11_odds 50 = .ok (.aload_n 0, 1) := by decide +kernel
theorem dX11_odds_51 : decode cX11_odds 51 = .ok (.getfield 61, 3) := by decide +kernel
theorem dX11_odds_54 : decode cX11_odds 54 = .ok (.aload_n 0, 1) := by decide +kernel
theorem dX11_odds_55 : decode cX11_odds 55 = .ok (.getfield 64, 3) := by decide +kernel
theorem dX11_odds_58 : decode cX11_odds 58 = .ok (.invokestatic 464, 3) := by decide +kernel
theorem dX11_odds_61 : decode cX11_odds 61 = .ok (.aload_n 0, 1) := by decide +kernel
theorem dX11_odds_62 : decode cX11_odds 62 = .ok (.iload_n 1, 1) := by decide +kernel
theorem dX11_odds_63 : decode cX11_odds 63 = .ok (.iload_n 2, 1) := by decide +kernel
theorem dX11_odds_64 : decode cX11_odds 64 = .ok (.iload_n 3, 1) := by decide +kernel
theorem dX11_odds_65 : decode cX11_odds 65 = .ok (.ldc_w 511, 3) := by decide +kernel
theorem dX11_odds_68 : decode cX11_odds 68 = .ok (.invokevirtual 507, 3) := by decide +kernel
theorem dX11_odds_71 : decode cX11_odds 71 = .ok (.ireturn, 1) := by decide +kernel
def f_Model_odds (σ : Mem) (x1 : Int32) (x2 : Int32) (x3 : Int32) : Option (Int32 × Mem) :=
  if (mI (sI σ 565 0 (0 : Int32)) 565 27) = (0 : Int32) then
    some ((-1 : Int32), (sI σ 565 0 (0 : Int32)))
  else
    (f_Model_isIn (sI σ 565 0 (0 : Int32)) ((x1).toInt64) (0 : Int64) (6 : Int64)).bind fun q2 =>
    if q2 = (0 : Int32) then
      some ((-1 : Int32), (sI σ 565 0 (0 : Int32)))
    else
      (f_Model_isIn (sI σ 565 0 (0 : Int32)) ((x2).toInt64) (0 : Int64) (999 : Int64)).bind fun q4 =>
      if q4 = (0 : Int32) then
        some ((-1 : Int32), (sI σ 565 0 (0 : Int32)))
      else
        (f_Model_isIn (sI σ 565 0 (0 : Int32)) ((x3).toInt64) (0 : Int64) (100 : Int64)).bind fun q6 =>
        if q6 = (0 : Int32) then
          some ((-1 : Int32), (sI σ 565 0 (0 : Int32)))
        else
          (f_Model_copy (sI σ 565 0 (0 : Int32)) 578 579).bind fun q8 =>
          (f_OF 8 0 q8 x1 x2 x3 (1000000000 : Int32)).bind fun q9 =>
          some (q9.1, q9.2)
set_option maxHeartbeats 4000000 in
set_option maxRecDepth 20000 in
theorem g_Model_odds (X : Cx θ p s m args c cX11_odds 4 RX11) (hr : meth.sig.returnType = some .int) (hlk : meth.locks = false)  {σ : Mem} {x1 : Int32} {x2 : Int32} {x3 : Int32} {r : Int32 × Mem}  (h : f_Model_odds σ x1 x2 x3 = some r) : GB θ p l e 74 s m args below meth c 4 (some (.int r.1), r.2) 0 [(0, .ref (be θ + 565)), (1, .int x1), (2, .int x2), (3, .int x3)] [] σ := by
  unfold f_Model_odds at h
  refine g_aload_n X dX11_odds_0 rfl 0 rfl ?_
  refine g_iconst X dX11_odds_1 (v := (0 : Int32)) ic_0 ?_
  refine g_putI X fl_RX11_112 dX11_odds_2 kd_565 rfl rfl rfl ?_
  refine g_aload_n X dX11_odds_5 rfl 0 rfl ?_
  refine g_get X fl_RX11_310 dX11_odds_6 kd_565 (v := .int (mI (sI σ 565 0 (0 : Int32)) 565 27)) rfl ?_
  refine g_if_eq (tgt := 48) X dX11_odds_9 (by decide) (fun c1 => ?_) (fun c1 => ?_)
  · replace h := (if_pos c1).symm.trans h
    refine g_iconst X dX11_odds_48 (v := (-1 : Int32)) ic_m1 ?_
    exact g_iret X hr hlk dX11_odds_49 (by cases h; rfl)
  · replace h := (if_neg c1).symm.trans h
    refine g_iload_n X dX11_odds_12 rfl 1 rfl ?_
    refine g_i2l X dX11_odds_13 (v := ((x1).toInt64)) rfl ?_
    refine g_lconst X dX11_odds_14 (v := (0 : Int64)) rfl ?_
    refine g_ldc2 X cst_RX11_415 dX11_odds_15 ?_
    obtain ⟨q2, hq2, h⟩ := Option.bind_eq_some_iff.mp h
    refine g_cS X (c_Model_isIn  hq2) lk_RX11_233 my_X11_isIn (As := [.long ((x1).toInt64), .long (0 : Int64), .long (6 : Int64)]) (rest := []) rfl rfl (Nat.le_of_ble_eq_true rfl) ⟨(Nat.le_of_ble_eq_true rfl), (Nat.le_of_ble_eq_true rfl)⟩ ⟨(Nat.le_of_ble_eq_true rfl), (Nat.le_of_ble_eq_true rfl)⟩ dX11_odds_18 (st' := [.int q2]) (σ' := (sI σ 565 0 (0 : Int32))) rfl rfl ?_
    refine g_if_eq (tgt := 48) X dX11_odds_21 (by decide) (fun c3 => ?_) (fun c3 => ?_)
    · replace h := (if_pos c3).symm.trans h
      refine g_iconst X dX11_odds_48 (v := (-1 : Int32)) ic_m1 ?_
      exact g_iret X hr hlk dX11_odds_49 (by cases h; rfl)
    · replace h := (if_neg c3).symm.trans h
      refine g_iload_n X dX11_odds_24 rfl 2 rfl ?_
      refine g_i2l X dX11_odds_25 (v := ((x2).toInt64)) rfl ?_
      refine g_lconst X dX11_odds_26 (v := (0 : Int64)) rfl ?_
      refine g_ldc2 X cst_RX11_495 dX11_odds_27 ?_
      obtain ⟨q4, hq4, h⟩ := Option.bind_eq_some_iff.mp h
      refine g_cS X (c_Model_isIn  hq4) lk_RX11_233 my_X11_isIn (As := [.long ((x2).toInt64), .long (0 : Int64), .long (999 : Int64)]) (rest := []) rfl rfl (Nat.le_of_ble_eq_true rfl) ⟨(Nat.le_of_ble_eq_true rfl), (Nat.le_of_ble_eq_true rfl)⟩ ⟨(Nat.le_of_ble_eq_true rfl), (Nat.le_of_ble_eq_true rfl)⟩ dX11_odds_30 (st' := [.int q4]) (σ' := (sI σ 565 0 (0 : Int32))) rfl rfl ?_
      refine g_if_eq (tgt := 48) X dX11_odds_33 (by decide) (fun c5 => ?_) (fun c5 => ?_)
      · replace h := (if_pos c5).symm.trans h
        refine g_iconst X dX11_odds_48 (v := (-1 : Int32)) ic_m1 ?_
        exact g_iret X hr hlk dX11_odds_49 (by cases h; rfl)
      · replace h := (if_neg c5).symm.trans h
        refine g_iload_n X dX11_odds_36 rfl 3 rfl ?_
        refine g_i2l X dX11_odds_37 (v := ((x3).toInt64)) rfl ?_
        refine g_lconst X dX11_odds_38 (v := (0 : Int64)) rfl ?_
        refine g_ldc2 X cst_RX11_335 dX11_odds_39 ?_
        obtain ⟨q6, hq6, h⟩ := Option.bind_eq_some_iff.mp h
        refine g_cS X (c_Model_isIn  hq6) lk_RX11_233 my_X11_isIn (As := [.long ((x3).toInt64), .long (0 : Int64), .long (100 : Int64)]) (rest := []) rfl rfl (Nat.le_of_ble_eq_true rfl) ⟨(Nat.le_of_ble_eq_true rfl), (Nat.le_of_ble_eq_true rfl)⟩ ⟨(Nat.le_of_ble_eq_true rfl), (Nat.le_of_ble_eq_true rfl)⟩ dX11_odds_42 (st' := [.int q6]) (σ' := (sI σ 565 0 (0 : Int32))) rfl rfl ?_
        refine g_if_ne (tgt := 50) X dX11_odds_45 (by decide) (fun c7 => ?_) (fun c7 => ?_)
        · replace h := (if_neg c7).symm.trans h
          refine g_aload_n X dX11_odds_50 rfl 0 rfl ?_
          refine g_get X fl_RX11_61 dX11_odds_51 kd_565 (v := .ref (be θ + 578)) rfl ?_
          refine g_aload_n X dX11_odds_54 rfl 0 rfl ?_
          refine g_get X fl_RX11_64 dX11_odds_55 kd_565 (v := .ref (be θ + 579)) rfl ?_
          obtain ⟨q8, hq8, h⟩ := Option.bind_eq_some_iff.mp h
          refine g_cS X (c_Model_copy kd_578 kd_579 hq8) lk_RX11_464 my_X11_copy (As := [.ref (be θ + 578), .ref (be θ + 579)]) (rest := []) rfl rfl (Nat.le_of_ble_eq_true rfl) ⟨(Nat.le_of_ble_eq_true rfl), (Nat.le_of_ble_eq_true rfl)⟩ ⟨(Nat.le_of_ble_eq_true rfl), (Nat.le_of_ble_eq_true rfl)⟩ dX11_odds_58 (st' := []) (σ' := q8) rfl rfl ?_
          refine g_aload_n X dX11_odds_61 rfl 0 rfl ?_
          refine g_iload_n X dX11_odds_62 rfl 1 rfl ?_
          refine g_iload_n X dX11_odds_63 rfl 2 rfl ?_
          refine g_iload_n X dX11_odds_64 rfl 3 rfl ?_
          refine g_ldcw X cst_RX11_511 dX11_odds_65 ?_
          obtain ⟨q9, hq9, h⟩ := Option.bind_eq_some_iff.mp h
          refine g_cV X (c_OF_0  hq9) lk_RX11_507 my_X11_oddsFrom (a := 565) (ci := 11) kd_565 (by decide) rfl (As := [.int x1, .int x2, .int x3, .int (1000000000 : Int32)]) (rest := []) rfl rfl (Nat.le_of_ble_eq_true rfl) ⟨(Nat.le_of_ble_eq_true rfl), (Nat.le_of_ble_eq_true rfl)⟩ ⟨(Nat.le_of_ble_eq_true rfl), (Nat.le_of_ble_eq_true rfl)⟩ dX11_odds_68 (st' := [.int q9.1]) (σ' := q9.2) rfl rfl ?_
          exact g_iret X hr hlk dX11_odds_71 (by cases h; rfl)
        · replace h := (if_pos c7).symm.trans h
          refine g_iconst X dX11_odds_48 (v := (-1 : Int32)) ic_m1 ?_
          exact g_iret X hr hlk dX11_odds_49 (by cases h; rfl)
set_option maxHeartbeats 4000000 in
set_option maxRecDepth 20000 in
theorem c_Model_odds {θ : Th} {l : Launch} {σ : Mem} {x1 : Int32} {x2 : Int32} {x3 : Int32} {r : Int32 × Mem}  (h : f_Model_odds σ x1 x2 x3 = some r) : Cn θ l yX11_odds cX11_odds 4 (some .int) 74 0 0 [.ref (be θ + 565), .int x1, .int x2, .int x3] σ (some (.int r.1), r.2) :=
  Cn.of (by decide) (Nat.le_of_ble_eq_true rfl) (fun p e s m below meth c X hr hlk => g_Model_odds X hr hlk  h)
theorem dX11_shares_0 : decode cX11_shares 0 = .ok (.aload_n 0, 1) := by decide +kernel
theorem dX11_shares_1 : decode cX11_shares 1 = .ok (.iconst 0, 1) := by decide +kernel
theorem dX11_shares_2 : decode cX11_shares 2 = .ok (.putfield 112, 3) := by decide +kernel
theorem dX11_shares_5 : decode cX11_shares 5 = .ok (.aload_n 0, 1) := by decide +kernel
theorem dX11_shares_6 : decode cX11_shares 6 = .ok (.iload_n 1, 1) := by decide +kernel
theorem dX11_shares_7 : decode cX11_shares 7 = .ok (.invokevirtual 412, 3) := by decide +kernel
theorem dX11_shares_10 : decode cX11_shares 10 = .ok (.ifCond .eq 15, 3) := by decide +kernel
theorem dX11_shares_13 : decode cX11_shares 13 = .ok (.iload_n 2, 1) := by decide +kernel
theorem dX11_shares_14 : decode cX11_shares 14 = .ok (.i2l, 1) := by decide +kernel
theorem dX11_shares_15 : decode cX11_shares 15 = .ok (.lconst 0, 1) := by decide +kernel
theorem dX11_shares_16 : decode cX11_shares 16 = .ok (.ldc2_w 495, 3) := by decide +kernel
theorem dX11_shares_19 : decode cX11_shares 19 = .ok (.invokestatic 233, 3) := by decide +kernel
theorem dX11_shares_22 : decode cX11_shares 22 = .ok (.ifCond .ne 5, 3) := by decide +kernel
theorem dX11_shares_25 : decode cX11_shares 25 = .ok (.iconst (-1), 1) := by decide +kernel
theorem dX11_shares_26 : decode cX11_shares 26 = .ok (.ireturn, 1) := by decide +kernel
theorem dX11_shares_27 : decode cX11_shares 27 = .ok (.aload_n 0, 1) := by decide +kernel
theorem dX11_shares_28 : decode cX11_shares 28 = .ok (.getfield 61, 3) := by decide +kernel
theorem dX11_shares_31 : decode cX11_shares 31 = .ok (.invokestatic 471, 3) := by decide +kernel
theorem dX11_shares_34 : decode cX11_shares 34 = .ok (.istore_n 3, 1) := by decide +kernel
theorem dX11_shares_35 : decode cX11_shares 35 = .ok (.iload_n 3, 1) := by decide +kernel
theorem dX11_shares_36 : decode cX11_shares 36 = .ok (.ifCond .ne 7, 3) := by decide +kernel
theorem dX11_shares_39 : decode cX11_shares 39 = .ok (.iconst 0, 1) := by decide +kernel
theorem dX11_shares_40 : decode cX11_shares 40 = .ok (.goto 15, 3) := by decide +kernel
theorem dX11_shares_43 : decode cX11_shares 43 = .ok (.iload_n 2, 1) := by decide +kernel
theorem dX11_shares_44 : decode cX11_shares 44 = .ok (.aload_n 0, 1) := by decide +kernel
theorem dX11_shares_45 : decode cX11_shares 45 = .ok (.getfield 61, 3) := by decide +kernel
theorem dX11_shares_48 : decode cX11_shares 48 = .ok (.iload_n 1, 1) := by decide +kernel
theorem dX11_shares_49 : decode cX11_shares 49 = .ok (.invokestatic 382, 3) := by decide +kernel
theorem dX11_shares_52 : decode cX11_shares 52 = .ok (.imul, 1) := by decide +kernel
theorem dX11_shares_53 : decode cX11_shares 53 = .ok (.iload_n 3, 1) := by decide +kernel
theorem dX11_shares_54 : decode cX11_shares 54 = .ok (.idiv, 1) := by decide +kernel
theorem dX11_shares_55 : decode cX11_shares 55 = .ok (.ireturn, 1) := by decide +kernel
def f_Model_shares (σ : Mem) (x1 : Int32) (x2 : Int32) : Option (Int32 × Mem) :=
  (f_Model_isBuyer (sI σ 565 0 (0 : Int32)) x1).bind fun q1 =>
  if q1 = (0 : Int32) then
    some ((-1 : Int32), (sI σ 565 0 (0 : Int32)))
  else
    (f_Model_isIn (sI σ 565 0 (0 : Int32)) ((x2).toInt64) (0 : Int64) (999 : Int64)).bind fun q3 =>
    if q3 = (0 : Int32) then
      some ((-1 : Int32), (sI σ 565 0 (0 : Int32)))
    else
      (f_Model_allDue (sI σ 565 0 (0 : Int32)) 578).bind fun q5 =>
      if q5 = (0 : Int32) then
        some ((0 : Int32), (sI σ 565 0 (0 : Int32)))
      else
        (f_Model_dueOf (sI σ 565 0 (0 : Int32)) 578 x1).bind fun q7 =>
        if q5 = 0 then none else
        some (((x2 * q7) / q5), (sI σ 565 0 (0 : Int32)))
set_option maxHeartbeats 4000000 in
set_option maxRecDepth 20000 in
theorem g_Model_shares (X : Cx θ p s m args c cX11_shares 4 RX11) (hr : meth.sig.returnType = some .int) (hlk : meth.locks = false)  {σ : Mem} {x1 : Int32} {x2 : Int32} {r : Int32 × Mem}  (h : f_Model_shares σ x1 x2 = some r) : GB θ p l e 1 s m args below meth c 4 (some (.int r.1), r.2) 0 [(0, .ref (be θ + 565)), (1, .int x1), (2, .int x2)] [] σ := by
  unfold f_Model_shares at h
  refine g_aload_n X dX11_shares_0 rfl 0 rfl ?_
  refine g_iconst X dX11_shares_1 (v := (0 : Int32)) ic_0 ?_
  refine g_putI X fl_RX11_112 dX11_shares_2 kd_565 rfl rfl rfl ?_
  refine g_aload_n X dX11_shares_5 rfl 0 rfl ?_
  refine g_iload_n X dX11_shares_6 rfl 1 rfl ?_
  obtain ⟨q1, hq1, h⟩ := Option.bind_eq_some_iff.mp h
  refine g_cV X (c_Model_isBuyer  hq1) lk_RX11_412 my_X11_isBuyer (a := 565) (ci := 11) kd_565 (by decide) rfl (As := [.int x1]) (rest := []) rfl rfl (Nat.le_of_ble_eq_true rfl) ⟨(Nat.le_of_ble_eq_true rfl), (Nat.le_of_ble_eq_true rfl)⟩ ⟨(Nat.le_of_ble_eq_true rfl), (Nat.le_of_ble_eq_true rfl)⟩ dX11_shares_7 (st' := [.int q1]) (σ' := (sI σ 565 0 (0 : Int32))) rfl rfl ?_
  refine g_if_eq (tgt := 25) X dX11_shares_10 (by decide) (fun c2 => ?_) (fun c2 => ?_)
  · replace h := (if_pos c2).symm.trans h
    refine g_iconst X dX11_shares_25 (v := (-1 : Int32)) ic_m1 ?_
    exact g_iret X hr hlk dX11_shares_26 (by cases h; rfl)
  · replace h := (if_neg c2).symm.trans h
    refine g_iload_n X dX11_shares_13 rfl 2 rfl ?_
    refine g_i2l X dX11_shares_14 (v := ((x2).toInt64)) rfl ?_
    refine g_lconst X dX11_shares_15 (v := (0 : Int64)) rfl ?_
    refine g_ldc2 X cst_RX11_495 dX11_shares_16 ?_
    obtain ⟨q3, hq3, h⟩ := Option.bind_eq_some_iff.mp h
    refine g_cS X (c_Model_isIn  hq3) lk_RX11_233 my_X11_isIn (As := [.long ((x2).toInt64), .long (0 : Int64), .long (999 : Int64)]) (rest := []) rfl rfl (Nat.le_of_ble_eq_true rfl) ⟨(Nat.le_of_ble_eq_true rfl), (Nat.le_of_ble_eq_true rfl)⟩ ⟨(Nat.le_of_ble_eq_true rfl), (Nat.le_of_ble_eq_true rfl)⟩ dX11_shares_19 (st' := [.int q3]) (σ' := (sI σ 565 0 (0 : Int32))) rfl rfl ?_
    refine g_if_ne (tgt := 27) X dX11_shares_22 (by decide) (fun c4 => ?_) (fun c4 => ?_)
    · replace h := (if_neg c4).symm.trans h
      refine g_aload_n X dX11_shares_27 rfl 0 rfl ?_
      refine g_get X fl_RX11_61 dX11_shares_28 kd_565 (v := .ref (be θ + 578)) rfl ?_
      obtain ⟨q5, hq5, h⟩ := Option.bind_eq_some_iff.mp h
      refine g_cS X (c_Model_allDue kd_578 hq5) lk_RX11_471 my_X11_allDue (As := [.ref (be θ + 578)]) (rest := []) rfl rfl (Nat.le_of_ble_eq_true rfl) ⟨(Nat.le_of_ble_eq_true rfl), (Nat.le_of_ble_eq_true rfl)⟩ ⟨(Nat.le_of_ble_eq_true rfl), (Nat.le_of_ble_eq_true rfl)⟩ dX11_shares_31 (st' := [.int q5]) (σ' := (sI σ 565 0 (0 : Int32))) rfl rfl ?_
      refine g_istore_n X dX11_shares_34 rfl (by decide) (lv' := [(3, .int q5), (0, .ref (be θ + 565)), (1, .int x1), (2, .int x2)]) rfl ?_
      refine g_iload_n X dX11_shares_35 rfl 0 rfl ?_
      refine g_if_ne (tgt := 43) X dX11_shares_36 (by decide) (fun c6 => ?_) (fun c6 => ?_)
      · replace h := (if_neg c6).symm.trans h
        refine g_iload_n X dX11_shares_43 rfl 3 rfl ?_
        refine g_aload_n X dX11_shares_44 rfl 1 rfl ?_
        refine g_get X fl_RX11_61 dX11_shares_45 kd_565 (v := .ref (be θ + 578)) rfl ?_
        refine g_iload_n X dX11_shares_48 rfl 2 rfl ?_
        obtain ⟨q7, hq7, h⟩ := Option.bind_eq_some_iff.mp h
        refine g_cS X (c_Model_dueOf kd_578 hq7) lk_RX11_382 my_X11_dueOf (As := [.ref (be θ + 578), .int x1]) (rest := [.int x2]) rfl rfl (Nat.le_of_ble_eq_true rfl) ⟨(Nat.le_of_ble_eq_true rfl), (Nat.le_of_ble_eq_true rfl)⟩ ⟨(Nat.le_of_ble_eq_true rfl), (Nat.le_of_ble_eq_true rfl)⟩ dX11_shares_49 (st' := [.int q7, .int x2]) (σ' := (sI σ 565 0 (0 : Int32))) rfl rfl ?_
        refine g_imul X dX11_shares_52 ?_
        refine g_iload_n X dX11_shares_53 rfl 0 rfl ?_
        obtain ⟨g8, h⟩ := ite_none h
        refine g_idiv X dX11_shares_54 g8 ?_
        exact g_iret X hr hlk dX11_shares_55 (by cases h; rfl)
      · replace h := (if_pos c6).symm.trans h
        refine g_iconst X dX11_shares_39 (v := (0 : Int32)) ic_0 ?_
        refine g_goto (tgt := 55) X dX11_shares_40 (by decide) ?_
        exact g_iret X hr hlk dX11_shares_55 (by cases h; rfl)
    · replace h := (if_pos c4).symm.trans h
      refine g_iconst X dX11_shares_25 (v := (-1 : Int32)) ic_m1 ?_
      exact g_iret X hr hlk dX11_shares_26 (by cases h; rfl)
set_option maxHeartbeats 4000000 in
set_option maxRecDepth 20000 in
theorem c_Model_shares {θ : Th} {l : Launch} {σ : Mem} {x1 : Int32} {x2 : Int32} {r : Int32 × Mem}  (h : f_Model_shares σ x1 x2 = some r) : Cn θ l yX11_shares cX11_shares 4 (some .int) 1 0 0 [.ref (be θ + 565), .int x1, .int x2] σ (some (.int r.1), r.2) :=
  Cn.of (by decide) (Nat.le_of_ble_eq_true rfl) (fun p e s m below meth c X hr hlk => g_Model_shares X hr hlk  h)
theorem dX11_wanted_0 : decode cX11_wanted 0 = .ok (.iconst 0, 1) := by decide +kernel
theorem dX11_wanted_1 : decode cX11_wanted 1 = .ok (.istore_n 2, 1) := by decide +kernel
theorem dX11_wanted_2 : decode cX11_wanted 2 = .ok (.iconst 0, 1) := by decide +kernel
theorem dX11_wanted_3 : decode cX11_wanted 3 = .ok (.istore_n 3, 1) := by decide +kernel
theorem dX11_wanted_4 : decode cX11_wanted 4 = .ok (.iload_n 3, 1) := by decide +kernel
theorem dX11_wanted_5 : decode cX11_wanted 5 = .ok (.aload_n 0, 1) := by decide +kernel
theorem dX11_wanted_6 : decode cX11_wanted 6 = .ok (.getfield 310, 3) := by decide +kernel
theorem dX11_wanted_9 : decode cX11_wanted 9 = .ok (.if_icmp .ge 22, 3) := by decide +kernel
theorem dX11_wanted_12 : decode cX11_wanted 12 = .ok (.iload_n 2, 1) := by decide +kernel
theorem dX11_wanted_13 : decode cX11_wanted 13 = .ok (.aload_n 0, 1) := by decide +kernel
theorem dX11_wanted_14 : decode cX11_wanted 14 = .ok (.aload_n 0, 1) := by decide +kernel
theorem dX11_wanted_15 : decode cX11_wanted 15 = .ok (.getfield 61, 3) := by decide +kernel
theorem dX11_wanted_18 : decode cX11_wanted 18 = .ok (.iload_n 3, 1) := by decide +kernel
theorem dX11_wanted_19 : decode cX11_wanted 19 = .ok (.iload_n 1, 1) := by decide +kernel
theorem dX11_wanted_20 : decode cX11_wanted 20 = .ok (.invokevirtual 373, 3) := by decide +kernel
theorem dX11_wanted_23 : decode cX11_wanted 23 = .ok (.iadd, 1) := by decide +kernel
theorem dX11_wanted_24 : decode cX11_wanted 24 = .ok (.istore_n 2, 1) := by decide +kernel
theorem dX11_wanted_25 : decode cX11_wanted 25 = .ok (.iinc 3 1, 3) := by decide +kernel
theorem dX11_wanted_28 : decode cX11_wanted 28 = .ok (.goto (-24), 3) := by decide +kernel
theorem dX11_wanted_31 : decode cX11_wanted 31 = .ok (.iload_n 2, 1) := by decide +kernel
theorem dX11_wanted_32 : decode cX11_wanted 32 = .ok (.ireturn, 1) := by decide +kernel
def f_Model_wanted_L4 (x1 : Int32) (a : Mem × Int32 × Int32) : Option ((Mem × Int32 × Int32) ⊕ (Int32 × Mem)) :=
  @Prod.casesOn (Mem) (Int32 × Int32) (fun _ => Option ((Mem × Int32 × Int32) ⊕ (Int32 × Mem))) a fun τ b0 =>
  @Prod.casesOn (Int32) (Int32) (fun _ => Option ((Mem × Int32 × Int32) ⊕ (Int32 × Mem))) b0 fun z2 z3 =>
  if (mI τ 565 27) ≤ z3 then
    some (.inr (z2, τ))
  else
    (f_Model_likingOf τ 578 z3 x1).bind fun q2 =>
    some (.inl (q2.2, (z2 + q2.1), (z3 + (1 : Int32))))
def f_Model_wanted (σ : Mem) (x1 : Int32) : Option (Int32 × Mem) :=
  loopF (f_Model_wanted_L4 x1) FU (σ, (0 : Int32), (0 : Int32))
set_option maxHeartbeats 4000000 in
set_option maxRecDepth 20000 in
theorem gs_Model_wanted_L4 (X : Cx θ p s m args c cX11_wanted 4 RX11) (hr : meth.sig.returnType = some .int) (hlk : meth.locks = false)  {x1 : Int32} {r : Int32 × Mem}  (τ : Mem) (z2 : Int32) (z3 : Int32) (x : (Mem × Int32 × Int32) ⊕ (Int32 × Mem)) (h : f_Model_wanted_L4 x1 (τ, z2, z3) = some x) (hk : Sum.elim (fun a => @Prod.casesOn (Mem) (Int32 × Int32) (fun _ => Prop) a fun τ b0 => @Prod.casesOn (Int32) (Int32) (fun _ => Prop) b0 fun z2 z3 => GB θ p l e 64 s m args below meth c 4 (some (.int r.1), r.2) 4 [(0, .ref (be θ + 565)), (1, .int x1), (2, .int z2), (3, .int z3)] [] τ) (fun b => b = r) x) : GB θ p l e 64 s m args below meth c 4 (some (.int r.1), r.2) 4 [(0, .ref (be θ + 565)), (1, .int x1), (2, .int z2), (3, .int z3)] [] τ := by
  unfold f_Model_wanted_L4 at h
  dsimp only at h
  refine g_iload_n X dX11_wanted_4 rfl 3 rfl ?_
  refine g_aload_n X dX11_wanted_5 rfl 0 rfl ?_
  refine g_get X fl_RX11_310 dX11_wanted_6 kd_565 (v := .int (mI τ 565 27)) rfl ?_
  refine g_icmp_ge (tgt := 31) X dX11_wanted_9 (by decide) (fun c1 => ?_) (fun c1 => ?_)
  · replace h := (if_pos c1).symm.trans h
    refine g_iload_n X dX11_wanted_31 rfl 2 rfl ?_
    have hk := inr_hk h hk
    have hk : (z2, τ) = r := hk
    subst hk
    exact g_iret X hr hlk dX11_wanted_32 rfl
  · replace h := (if_neg c1).symm.trans h
    refine g_iload_n X dX11_wanted_12 rfl 2 rfl ?_
    refine g_aload_n X dX11_wanted_13 rfl 0 rfl ?_
    refine g_aload_n X dX11_wanted_14 rfl 0 rfl ?_
    refine g_get X fl_RX11_61 dX11_wanted_15 kd_565 (v := .ref (be θ + 578)) rfl ?_
    refine g_iload_n X dX11_wanted_18 rfl 3 rfl ?_
    refine g_iload_n X dX11_wanted_19 rfl 1 rfl ?_
    obtain ⟨q2, hq2, h⟩ := Option.bind_eq_some_iff.mp h
    refine g_cV X (c_Model_likingOf kd_578 hq2) lk_RX11_373 my_X11_likingOf (a := 565) (ci := 11) kd_565 (by decide) rfl (As := [.ref (be θ + 578), .int z3, .int x1]) (rest := [.int z2]) rfl rfl (Nat.le_of_ble_eq_true rfl) ⟨(Nat.le_of_ble_eq_true rfl), (Nat.le_of_ble_eq_true rfl)⟩ ⟨(Nat.le_of_ble_eq_true rfl), (Nat.le_of_ble_eq_true rfl)⟩ dX11_wanted_20 (st' := [.int q2.1, .int z2]) (σ' := q2.2) rfl rfl ?_
    refine g_iadd X dX11_wanted_23 ?_
    refine g_istore_n X dX11_wanted_24 rfl (by decide) (lv' := [(2, .int (z2 + q2.1)), (0, .ref (be θ + 565)), (1, .int x1), (3, .int z3)]) rfl ?_
    refine g_iinc X dX11_wanted_25 (kq := 3) rfl (congrArg (HAdd.hAdd _) ic_1) (by decide) (lv' := [(3, .int (z3 + (1 : Int32))), (2, .int (z2 + q2.1)), (0, .ref (be θ + 565)), (1, .int x1)]) rfl ?_
    refine g_goto (tgt := 4) X dX11_wanted_28 (by decide) ?_
    have hk := inl_hk h hk
    exact g_sub (lv' := [(0, .ref (be θ + 565)), (1, .int x1), (2, .int (z2 + q2.1)), (3, .int (z3 + (1 : Int32)))]) [2, 3, 1, 0] rfl hk
set_option maxHeartbeats 4000000 in
set_option maxRecDepth 20000 in
theorem gl_Model_wanted_L4 (X : Cx θ p s m args c cX11_wanted 4 RX11) (hr : meth.sig.returnType = some .int) (hlk : meth.locks = false)  {x1 : Int32} {r : Int32 × Mem}  (n : Nat) (a : Mem × Int32 × Int32) (b : Int32 × Mem) (h : loopF (f_Model_wanted_L4 x1) n a = some b) (hk : (fun b => b = r) b) : (fun a => @Prod.casesOn (Mem) (Int32 × Int32) (fun _ => Prop) a fun τ b0 => @Prod.casesOn (Int32) (Int32) (fun _ => Prop) b0 fun z2 z3 => GB θ p l e 64 s m args below meth c 4 (some (.int r.1), r.2) 4 [(0, .ref (be θ + 565)), (1, .int x1), (2, .int z2), (3, .int z3)] [] τ) a :=
  loopF_by (P := (fun a => @Prod.casesOn (Mem) (Int32 × Int32) (fun _ => Prop) a fun τ b0 => @Prod.casesOn (Int32) (Int32) (fun _ => Prop) b0 fun z2 z3 => GB θ p l e 64 s m args below meth c 4 (some (.int r.1), r.2) 4 [(0, .ref (be θ + 565)), (1, .int x1), (2, .int z2), (3, .int z3)] [] τ)) (K := (fun b => b = r)) (fun a x h hk => by obtain ⟨τ, z2, z3⟩ := a; exact gs_Model_wanted_L4 X hr hlk   τ z2 z3 x h hk) n a b h hk
set_option maxHeartbeats 4000000 in
set_option maxRecDepth 20000 in
theorem g_Model_wanted (X : Cx θ p s m args c cX11_wanted 4 RX11) (hr : meth.sig.returnType = some .int) (hlk : meth.locks = false)  {σ : Mem} {x1 : Int32} {r : Int32 × Mem}  (h : f_Model_wanted σ x1 = some r) : GB θ p l e 64 s m args below meth c 4 (some (.int r.1), r.2) 0 [(0, .ref (be θ + 565)), (1, .int x1)] [] σ := by
  unfold f_Model_wanted at h
  refine g_iconst X dX11_wanted_0 (v := (0 : Int32)) ic_0 ?_
  refine g_istore_n X dX11_wanted_1 rfl (by decide) (lv' := [(2, .int (0 : Int32)), (0, .ref (be θ + 565)), (1, .int x1)]) rfl ?_
  refine g_iconst X dX11_wanted_2 (v := (0 : Int32)) ic_0 ?_
  refine g_istore_n X dX11_wanted_3 rfl (by decide) (lv' := [(3, .int (0 : Int32)), (2, .int (0 : Int32)), (0, .ref (be θ + 565)), (1, .int x1)]) rfl ?_
  exact g_sub (lv' := [(0, .ref (be θ + 565)), (1, .int x1), (2, .int (0 : Int32)), (3, .int (0 : Int32))]) [2, 3, 1, 0] rfl (gl_Model_wanted_L4 X hr hlk    FU _ _ h rfl)
set_option maxHeartbeats 4000000 in
set_option maxRecDepth 20000 in
theorem c_Model_wanted {θ : Th} {l : Launch} {σ : Mem} {x1 : Int32} {r : Int32 × Mem}  (h : f_Model_wanted σ x1 = some r) : Cn θ l yX11_wanted cX11_wanted 4 (some .int) 64 0 0 [.ref (be θ + 565), .int x1] σ (some (.int r.1), r.2) :=
  Cn.of (by decide) (Nat.le_of_ble_eq_true rfl) (fun p e s m below meth c X hr hlk => g_Model_wanted X hr hlk  h)
theorem dX11_valueOf_0 : decode cX11_valueOf 0 = .ok (.iload_n 1, 1) := by decide +kernel
theorem dX11_valueOf_1 : decode cX11_valueOf 1 = .ok (.tableswitch 100 0 5 #[39, 49, 58, 69, 80, 89], 39) := by decide +kernel
theorem dX11_valueOf_40 : decode cX11_valueOf 40 = .ok (.aload_n 0, 1) := by decide +kernel
theorem dX11_valueOf_41 : decode cX11_valueOf 41 = .ok (.getfield 61, 3) := by decide +kernel
theorem dX11_valueOf_44 : decode cX11_valueOf 44 = .ok (.bipush 24, 2) := by decide +kernel
theorem dX11_valueOf_46 : decode cX11_valueOf 46 = .ok (.iload_n 2, 1) := by decide +kernel
theorem dX11_valueOf_47 : decode cX11_valueOf 47 = .ok (.iadd, 1) := by decide +kernel
theorem dX11_valueOf_48 : decode cX11_valueOf 48 = .ok (.iaload, 1) := by decide +kernel
theorem dX11_valueOf_49 : decode cX11_valueOf 49 = .ok (.ireturn, 1) := by decide +kernel
theorem dX11_valueOf_50 : decode cX11_valueOf 50 = .ok (.aload_n 0, 1) := by decide +kernel
theorem dX11_valueOf_51 : decode cX11_valueOf 51 = .ok (.getfield 61, 3) := by decide +kernel
theorem dX11_valueOf_54 : decode cX11_valueOf 54 = .ok (.iload_n 2, 1) := by decide +kernel
theorem dX11_valueOf_55 : decode cX11_valueOf 55 = .ok (.invokestatic 382, 3) := by decide +kernel
theorem dX11_valueOf_58 : decode cX11_valueOf 58 = .ok (.ireturn, 1) := by decide +kernel
theorem dX11_valueOf_59 : decode cX11_valueOf 59 = .ok (.aload_n 0, 1) := by decide +kernel
theorem dX11_valueOf_60 : decode cX11_valueOf 60 = .ok (.getfield 49, 3) := by decide +kernel
theorem dX11_valueOf_63 : decode cX11_valueOf 63 = .ok (.iconst 4, 1) := by decide +kernel
theorem dX11_valueOf_64 : decode cX11_valueOf 64 = .ok (.iload_n 2, 1) := by decide +kernel
theorem dX11_valueOf_65 : decode cX11_valueOf 65 = .ok (.imul, 1) := by decide +kernel
theorem dX11_valueOf_66 : decode cX11_valueOf 66 = .ok (.iconst 2, 1) := by decide +kernel
theorem dX11_valueOf_67 : decode cX11_valueOf 67 = .ok (.iadd, 1) := by decide +kernel
theorem dX11_valueOf_68 : decode cX11_valueOf 68 = .ok (.iaload, 1) := by decide +kernel
theorem dX11_valueOf_69 : decode cX11_valueOf 69 = .ok (.ireturn, 1) := by decide +kernel
theorem dX11_valueOf_70 : decode cX11_valueOf 70 = .ok (.aload_n 0, 1) := by decide +kernel
theorem dX11_valueOf_71 : decode cX11_valueOf 71 = .ok (.getfield 49, 3) := by decide +kernel
theorem dX11_valueOf_74 : decode cX11_valueOf 74 = .ok (.iconst 4, 1) := by decide +kernel
theorem dX11_valueOf_75 : decode cX11_valueOf 75 = .ok (.iload_n 2, 1) := by decide +kernel
theorem dX11_valueOf_76 : decode cX11_valueOf 76 = .ok (.imul, 1) := by decide +kernel
theorem dX11_valueOf_77 : decode cX11_valueOf 77 = .ok (.iconst 1, 1) := by decide +kernel
theorem dX11_valueOf_78 : decode cX11_valueOf 78 = .ok (.iadd, 1) := by decide +kernel
theorem dX11_valueOf_79 : decode cX11_valueOf 79 = .ok (.iaload, 1) := by decide +kernel
theorem dX11_valueOf_80 : decode cX11_valueOf 80 = .ok (.ireturn, 1) := by decide +kernel
theorem dX11_valueOf_81 : decode cX11_valueOf 81 = .ok (.aload_n 0, 1) := by decide +kernel
theorem dX11_valueOf_82 : decode cX11_valueOf 82 = .ok (.getfield 43, 3) := by decide +kernel
theorem dX11_valueOf_85 : decode cX11_valueOf 85 = .ok (.iconst 3, 1) := by decide +kernel
theorem dX11_valueOf_86 : decode cX11_valueOf 86 = .ok (.iload_n 2, 1) := by decide +kernel
theorem dX11_valueOf_87 : decode cX11_valueOf 87 = .ok (.imul, 1) := by decide +kernel
theorem dX11_valueOf_88 : decode cX11_valueOf 88 = .ok (.iaload, 1) := by decide +kernel
theorem dX11_valueOf_89 : decode cX11_valueOf 89 = .ok (.ireturn, 1) := by decide +kernel
theorem dX11_valueOf_90 : decode cX11_valueOf 90 = .ok (.aload_n 0, 1) := by decide +kernel
theorem dX11_valueOf_91 : decode cX11_valueOf 91 = .ok (.getfield 43, 3) := by decide +kernel
theorem dX11_valueOf_94 : decode cX11_valueOf 94 = .ok (.iconst 3, 1) := by decide +kernel
theorem dX11_valueOf_95 : decode cX11_valueOf 95 = .ok (.iload_n 2, 1) := by decide +kernel
theorem dX11_valueOf_96 : decode cX11_valueOf 96 = .ok (.imul, 1) := by decide +kernel
theorem dX11_valueOf_97 : decode cX11_valueOf 97 = .ok (.iconst 1, 1) := by decide +kernel
theorem dX11_valueOf_98 : decode cX11_valueOf 98 = .ok (.iadd, 1) := by decide +kernel
theorem dX11_valueOf_99 : decode cX11_valueOf 99 = .ok (.iaload, 1) := by decide +kernel
theorem dX11_valueOf_100 : decode cX11_valueOf 100 = .ok (.ireturn, 1) := by decide +kernel
theorem dX11_valueOf_101 : decode cX11_valueOf 101 = .ok (.aload_n 0, 1) := by decide +kernel
theorem dX11_valueOf_102 : decode cX11_valueOf 102 = .ok (.iload_n 2, 1) := by decide +kernel
theorem dX11_valueOf_103 : decode cX11_valueOf 103 = .ok (.invokevirtual 512, 3) := by decide +kernel
theorem dX11_valueOf_106 : decode cX11_valueOf 106 = .ok (.ireturn, 1) := by decide +kernel
def f_Model_valueOf (σ : Mem) (x1 : Int32) (x2 : Int32) : Option (Int32 × Mem) :=
  if x1 = (0 : Int32) then
    if inb ((24 : Int32) + x2) 312 then
      some ((mI σ 578 ((24 : Int32) + x2).toNatClampNeg), σ)
    else none
  else
  if x1 = (1 : Int32) then
    (f_Model_dueOf σ 578 x2).bind fun q4 =>
    some (q4, σ)
  else
  if x1 = (2 : Int32) then
    if inb (((4 : Int32) * x2) + (2 : Int32)) 24 then
      some ((mI σ 574 (((4 : Int32) * x2) + (2 : Int32)).toNatClampNeg), σ)
    else none
  else
  if x1 = (3 : Int32) then
    if inb (((4 : Int32) * x2) + (1 : Int32)) 24 then
      some ((mI σ 574 (((4 : Int32) * x2) + (1 : Int32)).toNatClampNeg), σ)
    else none
  else
  if x1 = (4 : Int32) then
    if inb ((3 : Int32) * x2) 24 then
      some ((mI σ 572 ((3 : Int32) * x2).toNatClampNeg), σ)
    else none
  else
  if x1 = (5 : Int32) then
    if inb (((3 : Int32) * x2) + (1 : Int32)) 24 then
      some ((mI σ 572 (((3 : Int32) * x2) + (1 : Int32)).toNatClampNeg), σ)
    else none
  else
  (f_Model_wanted σ x2).bind fun q13 =>
  some (q13.1, q13.2)
set_option maxHeartbeats 4000000 in
set_option maxRecDepth 20000 in
theorem g_Model_valueOf (X : Cx θ p s m args c cX11_valueOf 3 RX11) (hr : meth.sig.returnType = some .int) (hlk : meth.locks = false)  {σ : Mem} {x1 : Int32} {x2 : Int32} {r : Int32 × Mem}  (h : f_Model_valueOf σ x1 x2 = some r) : GB θ p l e 65 s m args below meth c 3 (some (.int r.1), r.2) 0 [(0, .ref (be θ + 565)), (1, .int x1), (2, .int x2)] [] σ := by
  unfold f_Model_valueOf at h
  refine g_iload_n X dX11_valueOf_0 rfl 1 rfl ?_
  by_cases c1 : x1 = (0 : Int32)
  · replace h := (if_pos c1).symm.trans h
    refine g_tableIn (tgt := 40) (off := 39) X dX11_valueOf_1 (by rw [c1]; decide) (by rw [c1]; decide) (by rw [c1]; rfl) (by decide) ?_
    refine g_aload_n X dX11_valueOf_40 rfl 0 rfl ?_
    refine g_get X fl_RX11_61 dX11_valueOf_41 kd_565 (v := .ref (be θ + 578)) rfl ?_
    refine g_bipush X dX11_valueOf_44 (v := (24 : Int32)) bp_24 ?_
    refine g_iload_n X dX11_valueOf_46 rfl 2 rfl ?_
    refine g_iadd X dX11_valueOf_47 ?_
    obtain ⟨g2, h⟩ := ite_some h
    refine g_iald X kd_578 ln_578 (inb_in g2) dX11_valueOf_48 ?_
    exact g_iret X hr hlk dX11_valueOf_49 (by cases h; rfl)
  replace h := (if_neg c1).symm.trans h
  by_cases c3 : x1 = (1 : Int32)
  · replace h := (if_pos c3).symm.trans h
    refine g_tableIn (tgt := 50) (off := 49) X dX11_valueOf_1 (by rw [c3]; decide) (by rw [c3]; decide) (by rw [c3]; rfl) (by decide) ?_
    refine g_aload_n X dX11_valueOf_50 rfl 0 rfl ?_
    refine g_get X fl_RX11_61 dX11_valueOf_51 kd_565 (v := .ref (be θ + 578)) rfl ?_
    refine g_iload_n X dX11_valueOf_54 rfl 2 rfl ?_
    obtain ⟨q4, hq4, h⟩ := Option.bind_eq_some_iff.mp h
    refine g_cS X (c_Model_dueOf kd_578 hq4) lk_RX11_382 my_X11_dueOf (As := [.ref (be θ + 578), .int x2]) (rest := []) rfl rfl (Nat.le_of_ble_eq_true rfl) ⟨(Nat.le_of_ble_eq_true rfl), (Nat.le_of_ble_eq_true rfl)⟩ ⟨(Nat.le_of_ble_eq_true rfl), (Nat.le_of_ble_eq_true rfl)⟩ dX11_valueOf_55 (st' := [.int q4]) (σ' := σ) rfl rfl ?_
    exact g_iret X hr hlk dX11_valueOf_58 (by cases h; rfl)
  replace h := (if_neg c3).symm.trans h
  by_cases c5 : x1 = (2 : Int32)
  · replace h := (if_pos c5).symm.trans h
    refine g_tableIn (tgt := 59) (off := 58) X dX11_valueOf_1 (by rw [c5]; decide) (by rw [c5]; decide) (by rw [c5]; rfl) (by decide) ?_
    refine g_aload_n X dX11_valueOf_59 rfl 0 rfl ?_
    refine g_get X fl_RX11_49 dX11_valueOf_60 kd_565 (v := .ref (be θ + 574)) rfl ?_
    refine g_iconst X dX11_valueOf_63 (v := (4 : Int32)) ic_4 ?_
    refine g_iload_n X dX11_valueOf_64 rfl 2 rfl ?_
    refine g_imul X dX11_valueOf_65 ?_
    refine g_iconst X dX11_valueOf_66 (v := (2 : Int32)) ic_2 ?_
    refine g_iadd X dX11_valueOf_67 ?_
    obtain ⟨g6, h⟩ := ite_some h
    refine g_iald X kd_574 ln_574 (inb_in g6) dX11_valueOf_68 ?_
    exact g_iret X hr hlk dX11_valueOf_69 (by cases h; rfl)
  replace h := (if_neg c5).symm.trans h
  by_cases c7 : x1 = (3 : Int32)
  · replace h := (if_pos c7).symm.trans h
    refine g_tableIn (tgt := 70) (off := 69) X dX11_valueOf_1 (by rw [c7]; decide) (by rw [c7]; decide) (by rw [c7]; rfl) (by decide) ?_
    refine g_aload_n X dX11_valueOf_70 rfl 0 rfl ?_
    refine g_get X fl_RX11_49 dX11_valueOf_71 kd_565 (v := .ref (be θ + 574)) rfl ?_
    refine g_iconst X dX11_valueOf_74 (v := (4 : Int32)) ic_4 ?_
    refine g_iload_n X dX11_valueOf_75 rfl 2 rfl ?_
    refine g_imul X dX11_valueOf_76 ?_
    refine g_iconst X dX11_valueOf_77 (v := (1 : Int32)) ic_1 ?_
    refine g_iadd X dX11_valueOf_78 ?_
    obtain ⟨g8, h⟩ := ite_some h
    refine g_iald X kd_574 ln_574 (inb_in g8) dX11_valueOf_79 ?_
    exact g_iret X hr hlk dX11_valueOf_80 (by cases h; rfl)
  replace h := (if_neg c7).symm.trans h
  by_cases c9 : x1 = (4 : Int32)
  · replace h := (if_pos c9).symm.trans h
    refine g_tableIn (tgt := 81) (off := 80) X dX11_valueOf_1 (by rw [c9]; decide) (by rw [c9]; decide) (by rw [c9]; rfl) (by decide) ?_
    refine g_aload_n X dX11_valueOf_81 rfl 0 rfl ?_
    refine g_get X fl_RX11_43 dX11_valueOf_82 kd_565 (v := .ref (be θ + 572)) rfl ?_
    refine g_iconst X dX11_valueOf_85 (v := (3 : Int32)) ic_3 ?_
    refine g_iload_n X dX11_valueOf_86 rfl 2 rfl ?_
    refine g_imul X dX11_valueOf_87 ?_
    obtain ⟨g10, h⟩ := ite_some h
    refine g_iald X kd_572 ln_572 (inb_in g10) dX11_valueOf_88 ?_
    exact g_iret X hr hlk dX11_valueOf_89 (by cases h; rfl)
  replace h := (if_neg c9).symm.trans h
  by_cases c11 : x1 = (5 : Int32)
  · replace h := (if_pos c11).symm.trans h
    refine g_tableIn (tgt := 90) (off := 89) X dX11_valueOf_1 (by rw [c11]; decide) (by rw [c11]; decide) (by rw [c11]; rfl) (by decide) ?_
    refine g_aload_n X dX11_valueOf_90 rfl 0 rfl ?_
    refine g_get X fl_RX11_43 dX11_valueOf_91 kd_565 (v := .ref (be θ + 572)) rfl ?_
    refine g_iconst X dX11_valueOf_94 (v := (3 : Int32)) ic_3 ?_
    refine g_iload_n X dX11_valueOf_95 rfl 2 rfl ?_
    refine g_imul X dX11_valueOf_96 ?_
    refine g_iconst X dX11_valueOf_97 (v := (1 : Int32)) ic_1 ?_
    refine g_iadd X dX11_valueOf_98 ?_
    obtain ⟨g12, h⟩ := ite_some h
    refine g_iald X kd_572 ln_572 (inb_in g12) dX11_valueOf_99 ?_
    exact g_iret X hr hlk dX11_valueOf_100 (by cases h; rfl)
  replace h := (if_neg c11).symm.trans h
  have nc1 := neT c1
  have nc3 := neT c3
  have nc5 := neT c5
  have nc7 := neT c7
  have nc9 := neT c9
  have nc11 := neT c11
  have w14 : x1.toInt < 0 ∨ 5 < x1.toInt := by
    rw [show (0 : Int32).toInt = 0 from rfl] at nc1
    rw [show (1 : Int32).toInt = 1 from rfl] at nc3
    rw [show (2 : Int32).toInt = 2 from rfl] at nc5
    rw [show (3 : Int32).toInt = 3 from rfl] at nc7
    rw [show (4 : Int32).toInt = 4 from rfl] at nc9
    rw [show (5 : Int32).toInt = 5 from rfl] at nc11
    omega
  refine g_tableOut (tgt := 101) X dX11_valueOf_1 w14 (by decide) ?_
  refine g_aload_n X dX11_valueOf_101 rfl 0 rfl ?_
  refine g_iload_n X dX11_valueOf_102 rfl 2 rfl ?_
  obtain ⟨q13, hq13, h⟩ := Option.bind_eq_some_iff.mp h
  refine g_cV X (c_Model_wanted  hq13) lk_RX11_512 my_X11_wanted (a := 565) (ci := 11) kd_565 (by decide) rfl (As := [.int x2]) (rest := []) rfl rfl (Nat.le_of_ble_eq_true rfl) ⟨(Nat.le_of_ble_eq_true rfl), (Nat.le_of_ble_eq_true rfl)⟩ ⟨(Nat.le_of_ble_eq_true rfl), (Nat.le_of_ble_eq_true rfl)⟩ dX11_valueOf_103 (st' := [.int q13.1]) (σ' := q13.2) rfl rfl ?_
  exact g_iret X hr hlk dX11_valueOf_106 (by cases h; rfl)
set_option maxHeartbeats 4000000 in
set_option maxRecDepth 20000 in
theorem c_Model_valueOf {θ : Th} {l : Launch} {σ : Mem} {x1 : Int32} {x2 : Int32} {r : Int32 × Mem}  (h : f_Model_valueOf σ x1 x2 = some r) : Cn θ l yX11_valueOf cX11_valueOf 3 (some .int) 65 0 0 [.ref (be θ + 565), .int x1, .int x2] σ (some (.int r.1), r.2) :=
  Cn.of (by decide) (Nat.le_of_ble_eq_true rfl) (fun p e s m below meth c X hr hlk => g_Model_valueOf X hr hlk  h)
theorem dX11_greatest_0 : decode cX11_greatest 0 = .ok (.iconst 0, 1) := by decide +kernel
theorem dX11_greatest_1 : decode cX11_greatest 1 = .ok (.istore_n 2, 1) := by decide +kernel
theorem dX11_greatest_2 : decode cX11_greatest 2 = .ok (.iconst 1, 1) := by decide +kernel
theorem dX11_greatest_3 : decode cX11_greatest 3 = .ok (.istore_n 3, 1) := by decide +kernel
theorem dX11_greatest_4 : decode cX11_greatest 4 = .ok (.iload_n 3, 1) := by decide +kernel
theorem dX11_greatest_5 : decode cX11_greatest 5 = .ok (.iload_n 1, 1) := by decide +kernel
theorem dX11_greatest_6 : decode cX11_greatest 6 = .ok (.iconst 4, 1) := by decide +kernel
theorem dX11_greatest_7 : decode cX11_greatest 7 = .ok (.if_icmp .ge 10, 3) := by decide +kernel
theorem dX11_greatest_10 : decode cX11_greatest 10 = .ok (.aload_n 0, 1) := by decide +kernel
theorem dX11_greatest_11 : decode cX11_greatest 11 = .ok (.getfield 310, 3) := by decide +kernel
theorem dX11_greatest_14 : decode cX11_greatest 14 = .ok (.goto 7, 3) := by decide +kernel
theorem dX11_greatest_17 : decode cX11_greatest 17 = .ok (.aload_n 0, 1) := by decide +kernel
theorem dX11_greatest_18 : decode cX11_greatest 18 = .ok (.getfield 307, 3) := by decide +kernel
theorem dX11_greatest_21 : decode cX11_greatest 21 = .ok (.if_icmp .ge 30, 3) := by decide +kernel
theorem dX11_greatest_24 : decode cX11_greatest 24 = .ok (.aload_n 0, 1) := by decide +kernel
theorem dX11_greatest_25 : decode cX11_greatest 25 = .ok (.iload_n 1, 1) := by decide +kernel
theorem dX11_greatest_26 : decode cX11_greatest 26 = .ok (.iload_n 3, 1) := by decide +kernel
theorem dX11_greatest_27 : decode cX11_greatest 27 = .ok (.invokevirtual 515, 3) := by decide +kernel
theorem dX11_greatest_30 : decode cX11_greatest 30 = .ok (.aload_n 0, 1) := by decide +kernel
theorem dX11_greatest_31 : decode cX11_greatest 31 = .ok (.iload_n 1, 1) := by decide +kernel
theorem dX11_greatest_32 : decode cX11_greatest 32 = .ok (.iload_n 2, 1) := by decide +kernel
theorem dX11_greatest_33 : decode cX11_greatest 33 = .ok (.invokevirtual 515, 3) := by decide +kernel
theorem dX11_greatest_36 : decode cX11_greatest 36 = .ok (.if_icmp .le 7, 3) := by decide +kernel
theorem dX11_greatest_39 : decode cX11_greatest 39 = .ok (.iload_n 3, 1) := by decide +kernel
theorem dX11_greatest_40 : decode cX11_greatest 40 = .ok (.goto 4, 3) := by decide +kernel
theorem dX11_greatest_43 : decode cX11_greatest 43 = .ok (.iload_n 2, 1) := by decide +kernel
theorem dX11_greatest_44 : decode cX11_greatest 44 = .ok (.istore_n 2, 1) := by decide +kernel
theorem dX11_greatest_45 : decode cX11_greatest 45 = .ok (.iinc 3 1, 3) := by decide +kernel
theorem dX11_greatest_48 : decode cX11_greatest 48 = .ok (.goto (-44), 3) := by decide +kernel
theorem dX11_greatest_51 : decode cX11_greatest 51 = .ok (.iload_n 2, 1) := by decide +kernel
theorem dX11_greatest_52 : decode cX11_greatest 52 = .ok (.ireturn, 1) := by decide +kernel
def f_Model_greatest_L4 (x1 : Int32) (a : Mem × Int32 × Int32) : Option ((Mem × Int32 × Int32) ⊕ (Int32 × Mem)) :=
  @Prod.casesOn (Mem) (Int32 × Int32) (fun _ => Option ((Mem × Int32 × Int32) ⊕ (Int32 × Mem))) a fun τ b0 =>
  @Prod.casesOn (Int32) (Int32) (fun _ => Option ((Mem × Int32 × Int32) ⊕ (Int32 × Mem))) b0 fun z2 z3 =>
  if (4 : Int32) ≤ x1 then
    if (mI τ 565 26) ≤ z3 then
      some (.inr (z2, τ))
    else
      (f_Model_valueOf τ x1 z3).bind fun q3 =>
      (f_Model_valueOf q3.2 x1 z2).bind fun q4 =>
      if q3.1 ≤ q4.1 then
        some (.inl (q4.2, z2, (z3 + (1 : Int32))))
      else
        some (.inl (q4.2, z3, (z3 + (1 : Int32))))
  else
    if (mI τ 565 27) ≤ z3 then
      some (.inr (z2, τ))
    else
      (f_Model_valueOf τ x1 z3).bind fun q7 =>
      (f_Model_valueOf q7.2 x1 z2).bind fun q8 =>
      if q7.1 ≤ q8.1 then
        some (.inl (q8.2, z2, (z3 + (1 : Int32))))
      else
        some (.inl (q8.2, z3, (z3 + (1 : Int32))))
def f_Model_greatest (σ : Mem) (x1 : Int32) : Option (Int32 × Mem) :=
  loopF (f_Model_greatest_L4 x1) FU (σ, (0 : Int32), (1 : Int32))
set_option maxHeartbeats 4000000 in
set_option maxRecDepth 20000 in
theorem gs_Model_greatest_L4 (X : Cx θ p s m args c cX11_greatest 4 RX11) (hr : meth.sig.returnType = some .int) (hlk : meth.locks = false)  {x1 : Int32} {r : Int32 × Mem}  (τ : Mem) (z2 : Int32) (z3 : Int32) (x : (Mem × Int32 × Int32) ⊕ (Int32 × Mem)) (h : f_Model_greatest_L4 x1 (τ, z2, z3) = some x) (hk : Sum.elim (fun a => @Prod.casesOn (Mem) (Int32 × Int32) (fun _ => Prop) a fun τ b0 => @Prod.casesOn (Int32) (Int32) (fun _ => Prop) b0 fun z2 z3 => GB θ p l e 66 s m args below meth c 4 (some (.int r.1), r.2) 4 [(0, .ref (be θ + 565)), (1, .int x1), (2, .int z2), (3, .int z3)] [] τ) (fun b => b = r) x) : GB θ p l e 66 s m args below meth c 4 (some (.int r.1), r.2) 4 [(0, .ref (be θ + 565)), (1, .int x1), (2, .int z2), (3, .int z3)] [] τ := by
  unfold f_Model_greatest_L4 at h
  dsimp only at h
  refine g_iload_n X dX11_greatest_4 rfl 3 rfl ?_
  refine g_iload_n X dX11_greatest_5 rfl 1 rfl ?_
  refine g_iconst X dX11_greatest_6 (v := (4 : Int32)) ic_4 ?_
  refine g_icmp_ge (tgt := 17) X dX11_greatest_7 (by decide) (fun c1 => ?_) (fun c1 => ?_)
  · replace h := (if_pos c1).symm.trans h
    refine g_aload_n X dX11_greatest_17 rfl 0 rfl ?_
    refine g_get X fl_RX11_307 dX11_greatest_18 kd_565 (v := .int (mI τ 565 26)) rfl ?_
    refine g_icmp_ge (tgt := 51) X dX11_greatest_21 (by decide) (fun c2 => ?_) (fun c2 => ?_)
    · replace h := (if_pos c2).symm.trans h
      refine g_iload_n X dX11_greatest_51 rfl 2 rfl ?_
      have hk := inr_hk h hk
      have hk : (z2, τ) = r := hk
      subst hk
      exact g_iret X hr hlk dX11_greatest_52 rfl
    · replace h := (if_neg c2).symm.trans h
      refine g_aload_n X dX11_greatest_24 rfl 0 rfl ?_
      refine g_iload_n X dX11_greatest_25 rfl 1 rfl ?_
      refine g_iload_n X dX11_greatest_26 rfl 3 rfl ?_
      obtain ⟨q3, hq3, h⟩ := Option.bind_eq_some_iff.mp h
      refine g_cV X (c_Model_valueOf  hq3) lk_RX11_515 my_X11_valueOf (a := 565) (ci := 11) kd_565 (by decide) rfl (As := [.int x1, .int z3]) (rest := []) rfl rfl (Nat.le_of_ble_eq_true rfl) ⟨(Nat.le_of_ble_eq_true rfl), (Nat.le_of_ble_eq_true rfl)⟩ ⟨(Nat.le_of_ble_eq_true rfl), (Nat.le_of_ble_eq_true rfl)⟩ dX11_greatest_27 (st' := [.int q3.1]) (σ' := q3.2) rfl rfl ?_
      refine g_aload_n X dX11_greatest_30 rfl 0 rfl ?_
      refine g_iload_n X dX11_greatest_31 rfl 1 rfl ?_
      refine g_iload_n X dX11_greatest_32 rfl 2 rfl ?_
      obtain ⟨q4, hq4, h⟩ := Option.bind_eq_some_iff.mp h
      refine g_cV X (c_Model_valueOf  hq4) lk_RX11_515 my_X11_valueOf (a := 565) (ci := 11) kd_565 (by decide) rfl (As := [.int x1, .int z2]) (rest := [.int q3.1]) rfl rfl (Nat.le_of_ble_eq_true rfl) ⟨(Nat.le_of_ble_eq_true rfl), (Nat.le_of_ble_eq_true rfl)⟩ ⟨(Nat.le_of_ble_eq_true rfl), (Nat.le_of_ble_eq_true rfl)⟩ dX11_greatest_33 (st' := [.int q4.1, .int q3.1]) (σ' := q4.2) rfl rfl ?_
      refine g_icmp_le (tgt := 43) X dX11_greatest_36 (by decide) (fun c5 => ?_) (fun c5 => ?_)
      · replace h := (if_pos c5).symm.trans h
        refine g_iload_n X dX11_greatest_43 rfl 2 rfl ?_
        refine g_istore_n X dX11_greatest_44 rfl (by decide) (lv' := [(2, .int z2), (0, .ref (be θ + 565)), (1, .int x1), (3, .int z3)]) rfl ?_
        refine g_iinc X dX11_greatest_45 (kq := 3) rfl (congrArg (HAdd.hAdd _) ic_1) (by decide) (lv' := [(3, .int (z3 + (1 : Int32))), (2, .int z2), (0, .ref (be θ + 565)), (1, .int x1)]) rfl ?_
        refine g_goto (tgt := 4) X dX11_greatest_48 (by decide) ?_
        have hk := inl_hk h hk
        exact g_sub (lv' := [(0, .ref (be θ + 565)), (1, .int x1), (2, .int z2), (3, .int (z3 + (1 : Int32)))]) [2, 3, 1, 0] rfl hk
      · replace h := (if_neg c5).symm.trans h
        refine g_iload_n X dX11_greatest_39 rfl 3 rfl ?_
        refine g_goto (tgt := 44) X dX11_greatest_40 (by decide) ?_
        refine g_istore_n X dX11_greatest_44 rfl (by decide) (lv' := [(2, .int z3), (0, .ref (be θ + 565)), (1, .int x1), (3, .int z3)]) rfl ?_
        refine g_iinc X dX11_greatest_45 (kq := 3) rfl (congrArg (HAdd.hAdd _) ic_1) (by decide) (lv' := [(3, .int (z3 + (1 : Int32))), (2, .int z3), (0, .ref (be θ + 565)), (1, .int x1)]) rfl ?_
        refine g_goto (tgt := 4) X dX11_greatest_48 (by decide) ?_
        have hk := inl_hk h hk
        exact g_sub (lv' := [(0, .ref (be θ + 565)), (1, .int x1), (2, .int z3), (3, .int (z3 + (1 : Int32)))]) [2, 3, 1, 0] rfl hk
  · replace h := (if_neg c1).symm.trans h
    refine g_aload_n X dX11_greatest_10 rfl 0 rfl ?_
    refine g_get X fl_RX11_310 dX11_greatest_11 kd_565 (v := .int (mI τ 565 27)) rfl ?_
    refine g_goto (tgt := 21) X dX11_greatest_14 (by decide) ?_
    refine g_icmp_ge (tgt := 51) X dX11_greatest_21 (by decide) (fun c6 => ?_) (fun c6 => ?_)
    · replace h := (if_pos c6).symm.trans h
      refine g_iload_n X dX11_greatest_51 rfl 2 rfl ?_
      have hk := inr_hk h hk
      have hk : (z2, τ) = r := hk
      subst hk
      exact g_iret X hr hlk dX11_greatest_52 rfl
    · replace h := (if_neg c6).symm.trans h
      refine g_aload_n X dX11_greatest_24 rfl 0 rfl ?_
      refine g_iload_n X dX11_greatest_25 rfl 1 rfl ?_
      refine g_iload_n X dX11_greatest_26 rfl 3 rfl ?_
      obtain ⟨q7, hq7, h⟩ := Option.bind_eq_some_iff.mp h
      refine g_cV X (c_Model_valueOf  hq7) lk_RX11_515 my_X11_valueOf (a := 565) (ci := 11) kd_565 (by decide) rfl (As := [.int x1, .int z3]) (rest := []) rfl rfl (Nat.le_of_ble_eq_true rfl) ⟨(Nat.le_of_ble_eq_true rfl), (Nat.le_of_ble_eq_true rfl)⟩ ⟨(Nat.le_of_ble_eq_true rfl), (Nat.le_of_ble_eq_true rfl)⟩ dX11_greatest_27 (st' := [.int q7.1]) (σ' := q7.2) rfl rfl ?_
      refine g_aload_n X dX11_greatest_30 rfl 0 rfl ?_
      refine g_iload_n X dX11_greatest_31 rfl 1 rfl ?_
      refine g_iload_n X dX11_greatest_32 rfl 2 rfl ?_
      obtain ⟨q8, hq8, h⟩ := Option.bind_eq_some_iff.mp h
      refine g_cV X (c_Model_valueOf  hq8) lk_RX11_515 my_X11_valueOf (a := 565) (ci := 11) kd_565 (by decide) rfl (As := [.int x1, .int z2]) (rest := [.int q7.1]) rfl rfl (Nat.le_of_ble_eq_true rfl) ⟨(Nat.le_of_ble_eq_true rfl), (Nat.le_of_ble_eq_true rfl)⟩ ⟨(Nat.le_of_ble_eq_true rfl), (Nat.le_of_ble_eq_true rfl)⟩ dX11_greatest_33 (st' := [.int q8.1, .int q7.1]) (σ' := q8.2) rfl rfl ?_
      refine g_icmp_le (tgt := 43) X dX11_greatest_36 (by decide) (fun c9 => ?_) (fun c9 => ?_)
      · replace h := (if_pos c9).symm.trans h
        refine g_iload_n X dX11_greatest_43 rfl 2 rfl ?_
        refine g_istore_n X dX11_greatest_44 rfl (by decide) (lv' := [(2, .int z2), (0, .ref (be θ + 565)), (1, .int x1), (3, .int z3)]) rfl ?_
        refine g_iinc X dX11_greatest_45 (kq := 3) rfl (congrArg (HAdd.hAdd _) ic_1) (by decide) (lv' := [(3, .int (z3 + (1 : Int32))), (2, .int z2), (0, .ref (be θ + 565)), (1, .int x1)]) rfl ?_
        refine g_goto (tgt := 4) X dX11_greatest_48 (by decide) ?_
        have hk := inl_hk h hk
        exact g_sub (lv' := [(0, .ref (be θ + 565)), (1, .int x1), (2, .int z2), (3, .int (z3 + (1 : Int32)))]) [2, 3, 1, 0] rfl hk
      · replace h := (if_neg c9).symm.trans h
        refine g_iload_n X dX11_greatest_39 rfl 3 rfl ?_
        refine g_goto (tgt := 44) X dX11_greatest_40 (by decide) ?_
        refine g_istore_n X dX11_greatest_44 rfl (by decide) (lv' := [(2, .int z3), (0, .ref (be θ + 565)), (1, .int x1), (3, .int z3)]) rfl ?_
        refine g_iinc X dX11_greatest_45 (kq := 3) rfl (congrArg (HAdd.hAdd _) ic_1) (by decide) (lv' := [(3, .int (z3 + (1 : Int32))), (2, .int z3), (0, .ref (be θ + 565)), (1, .int x1)]) rfl ?_
        refine g_goto (tgt := 4) X dX11_greatest_48 (by decide) ?_
        have hk := inl_hk h hk
        exact g_sub (lv' := [(0, .ref (be θ + 565)), (1, .int x1), (2, .int z3), (3, .int (z3 + (1 : Int32)))]) [2, 3, 1, 0] rfl hk
set_option maxHeartbeats 4000000 in
set_option maxRecDepth 20000 in
theorem gl_Model_greatest_L4 (X : Cx θ p s m args c cX11_greatest 4 RX11) (hr : meth.sig.returnType = some .int) (hlk : meth.locks = false)  {x1 : Int32} {r : Int32 × Mem}  (n : Nat) (a : Mem × Int32 × Int32) (b : Int32 × Mem) (h : loopF (f_Model_greatest_L4 x1) n a = some b) (hk : (fun b => b = r) b) : (fun a => @Prod.casesOn (Mem) (Int32 × Int32) (fun _ => Prop) a fun τ b0 => @Prod.casesOn (Int32) (Int32) (fun _ => Prop) b0 fun z2 z3 => GB θ p l e 66 s m args below meth c 4 (some (.int r.1), r.2) 4 [(0, .ref (be θ + 565)), (1, .int x1), (2, .int z2), (3, .int z3)] [] τ) a :=
  loopF_by (P := (fun a => @Prod.casesOn (Mem) (Int32 × Int32) (fun _ => Prop) a fun τ b0 => @Prod.casesOn (Int32) (Int32) (fun _ => Prop) b0 fun z2 z3 => GB θ p l e 66 s m args below meth c 4 (some (.int r.1), r.2) 4 [(0, .ref (be θ + 565)), (1, .int x1), (2, .int z2), (3, .int z3)] [] τ)) (K := (fun b => b = r)) (fun a x h hk => by obtain ⟨τ, z2, z3⟩ := a; exact gs_Model_greatest_L4 X hr hlk   τ z2 z3 x h hk) n a b h hk
set_option maxHeartbeats 4000000 in
set_option maxRecDepth 20000 in
theorem g_Model_greatest (X : Cx θ p s m args c cX11_greatest 4 RX11) (hr : meth.sig.returnType = some .int) (hlk : meth.locks = false)  {σ : Mem} {x1 : Int32} {r : Int32 × Mem}  (h : f_Model_greatest σ x1 = some r) : GB θ p l e 66 s m args below meth c 4 (some (.int r.1), r.2) 0 [(0, .ref (be θ + 565)), (1, .int x1)] [] σ := by
  unfold f_Model_greatest at h
  refine g_iconst X dX11_greatest_0 (v := (0 : Int32)) ic_0 ?_
  refine g_istore_n X dX11_greatest_1 rfl (by decide) (lv' := [(2, .int (0 : Int32)), (0, .ref (be θ + 565)), (1, .int x1)]) rfl ?_
  refine g_iconst X dX11_greatest_2 (v := (1 : Int32)) ic_1 ?_
  refine g_istore_n X dX11_greatest_3 rfl (by decide) (lv' := [(3, .int (1 : Int32)), (2, .int (0 : Int32)), (0, .ref (be θ + 565)), (1, .int x1)]) rfl ?_
  exact g_sub (lv' := [(0, .ref (be θ + 565)), (1, .int x1), (2, .int (0 : Int32)), (3, .int (1 : Int32))]) [2, 3, 1, 0] rfl (gl_Model_greatest_L4 X hr hlk    FU _ _ h rfl)
set_option maxHeartbeats 4000000 in
set_option maxRecDepth 20000 in
theorem c_Model_greatest {θ : Th} {l : Launch} {σ : Mem} {x1 : Int32} {r : Int32 × Mem}  (h : f_Model_greatest σ x1 = some r) : Cn θ l yX11_greatest cX11_greatest 4 (some .int) 66 0 0 [.ref (be θ + 565), .int x1] σ (some (.int r.1), r.2) :=
  Cn.of (by decide) (Nat.le_of_ble_eq_true rfl) (fun p e s m below meth c X hr hlk => g_Model_greatest X hr hlk  h)
theorem dX11_thoseThings_0 : decode cX11_thoseThings 0 = .ok (.iconst 0, 1) := by decide +kernel
theorem dX11_thoseThings_1 : decode cX11_thoseThings 1 = .ok (.istore_n 2, 1) := by decide +kernel
theorem dX11_thoseThings_2 : decode cX11_thoseThings 2 = .ok (.iconst 0, 1) := by decide +kernel
theorem dX11_thoseThings_3 : decode cX11_thoseThings 3 = .ok (.istore_n 3, 1) := by decide +kernel
theorem dX11_thoseThings_4 : decode cX11_thoseThings 4 = .ok (.iload_n 3, 1) := by decide +kernel
theorem dX11_thoseThings_5 : decode cX11_thoseThings 5 = .ok (.aload_n 0, 1) := by decide +kernel
theorem dX11_thoseThings_6 : decode cX11_thoseThings 6 = .ok (.getfield 307, 3) := by decide +kernel
theorem dX11_thoseThings_9 : decode cX11_thoseThings 9 = .ok (.if_icmp .ge 51, 3) := by decide +kernel
theorem dX11_thoseThings_12 : decode cX11_thoseThings 12 = .ok (.iload_n 2, 1) := by decide +kernel
theorem dX11_thoseThings_13 : decode cX11_thoseThings 13 = .ok (.iload_n 1, 1) := by decide +kernel
theorem dX11_thoseThings_14 : decode cX11_thoseThings 14 = .ok (.ifCond .eq 18, 3) := by decide +kernel
theorem dX11_thoseThings_17 : decode cX11_thoseThings 17 = .ok (.aload_n 0, 1) := by decide +kernel
theorem dX11_thoseThings_18 : decode cX11_thoseThings 18 = .ok (.aload_n 0, 1) := by decide +kernel
theorem dX11_thoseThings_19 : decode cX11_thoseThings 19 = .ok (.getfield 61, 3) := by decide +kernel
theorem dX11_thoseThings_22 : decode cX11_thoseThings 22 = .ok (.iload_n 3, 1) := by decide +kernel
theorem dX11_thoseThings_23 : decode cX11_thoseThings 23 = .ok (.invokevirtual 385, 3) := by decide +kernel
theorem dX11_thoseThings_26 : decode cX11_thoseThings 26 = .ok (.ifCond .eq 25, 3) := by decide +kernel
theorem dX11_thoseThings_29 : decode cX11_thoseThings 29 = .ok (.goto 16, 3) := by decide +kernel
theorem dX11_thoseThings_32 : decode cX11_thoseThings 32 = .ok (.aload_n 0, 1) := by decide +kernel
theorem dX11_thoseThings_33 : decode cX11_thoseThings 33 = .ok (.getfield 61, 3) := by decide +kernel
theorem dX11_thoseThings_36 : decode cX11_thoseThings 36 = .ok (.bipush 8, 2) := by decide +kernel
theorem dX11_thoseThings_38 : decode cX11_thoseThings 38 = .ok (.iload_n 3, 1) := by decide +kernel
theorem dX11_thoseThings_39 : decode cX11_thoseThings 39 = .ok (.iadd, 1) := by decide +kernel
theorem dX11_thoseThings_40 : decode cX11_thoseThings 40 = .ok (.iaload, 1) := by decide +kernel
theorem dX11_thoseThings_41 : decode cX11_thoseThings 41 = .ok (.iconst 1, 1) := by decide +kernel
theorem dX11_thoseThings_42 : decode cX11_thoseThings 42 = .ok (.if_icmp .ne 9, 3) := by decide +kernel
theorem dX11_thoseThings_45 : decode cX11_thoseThings 45 = .ok (.iconst 1, 1) := by decide +kernel
theorem dX11_thoseThings_46 : decode cX11_thoseThings 46 = .ok (.iload_n 3, 1) := by decide +kernel
theorem dX11_thoseThings_47 : decode cX11_thoseThings 47 = .ok (.ishl, 1) := by decide +kernel
theorem dX11_thoseThings_48 : decode cX11_thoseThings 48 = .ok (.goto 4, 3) := by decide +kernel
theorem dX11_thoseThings_51 : decode cX11_thoseThings 51 = .ok (.iconst 0, 1) := by decide +kernel
theorem dX11_thoseThings_52 : decode cX11_thoseThings 52 = .ok (.ior, 1) := by decide +kernel
theorem dX11_thoseThings_53 : decode cX11_thoseThings 53 = .ok (.istore_n 2, 1) := by decide +kernel
theorem dX11_thoseThings_54 : decode cX11_thoseThings 54 = .ok (.iinc 3 1, 3) := by decide +kernel
theorem dX11_thoseThings_57 : decode cX11_thoseThings 57 = .ok (.goto (-53), 3) := by decide +kernel
theorem dX11_thoseThings_60 : decode cX11_thoseThings 60 = .ok (.iload_n 2, 1) := by decide +kernel
theorem dX11_thoseThings_61 : decode cX11_thoseThings 61 = .ok (.ireturn, 1) := by decide +kernel
def f_Model_thoseThings_L4 (σ : Mem) (x1 : Int32) (a : Int32 × Int32) : Option ((Int32 × Int32) ⊕ (Int32)) :=
  @Prod.casesOn (Int32) (Int32) (fun _ => Option ((Int32 × Int32) ⊕ (Int32))) a fun z2 z3 =>
  if (mI σ 565 26) ≤ z3 then
    some (.inr z2)
  else
    if x1 = (0 : Int32) then
      if inb ((8 : Int32) + z3) 312 then
        if (mI σ 578 ((8 : Int32) + z3).toNatClampNeg) = (1 : Int32) then
          some (.inl ((z2 ||| ((1 : Int32) <<< (z3 &&& 31))), (z3 + (1 : Int32))))
        else
          some (.inl ((z2 ||| (0 : Int32)), (z3 + (1 : Int32))))
      else none
    else
      (f_Model_isFree σ 578 z3).bind fun q5 =>
      if q5 = (0 : Int32) then
        some (.inl ((z2 ||| (0 : Int32)), (z3 + (1 : Int32))))
      else
        some (.inl ((z2 ||| ((1 : Int32) <<< (z3 &&& 31))), (z3 + (1 : Int32))))
def f_Model_thoseThings (σ : Mem) (x1 : Int32) : Option (Int32) :=
  loopF (f_Model_thoseThings_L4 σ x1) FU ((0 : Int32), (0 : Int32))
set_option maxHeartbeats 4000000 in
set_option maxRecDepth 20000 in
theorem gs_Model_thoseThings_L4 (X : Cx θ p s m args c cX11_thoseThings 4 RX11) (hr : meth.sig.returnType = some .int) (hlk : meth.locks = false)  {σ : Mem} {x1 : Int32} {r : Int32}  (z2 : Int32) (z3 : Int32) (x : (Int32 × Int32) ⊕ (Int32)) (h : f_Model_thoseThings_L4 σ x1 (z2, z3) = some x) (hk : Sum.elim (fun a => @Prod.casesOn (Int32) (Int32) (fun _ => Prop) a fun z2 z3 => GB θ p l e 2 s m args below meth c 4 (some (.int r), σ) 4 [(0, .ref (be θ + 565)), (1, .int x1), (2, .int z2), (3, .int z3)] [] σ) (fun b => b = r) x) : GB θ p l e 2 s m args below meth c 4 (some (.int r), σ) 4 [(0, .ref (be θ + 565)), (1, .int x1), (2, .int z2), (3, .int z3)] [] σ := by
  unfold f_Model_thoseThings_L4 at h
  dsimp only at h
  refine g_iload_n X dX11_thoseThings_4 rfl 3 rfl ?_
  refine g_aload_n X dX11_thoseThings_5 rfl 0 rfl ?_
  refine g_get X fl_RX11_307 dX11_thoseThings_6 kd_565 (v := .int (mI σ 565 26)) rfl ?_
  refine g_icmp_ge (tgt := 60) X dX11_thoseThings_9 (by decide) (fun c1 => ?_) (fun c1 => ?_)
  · replace h := (if_pos c1).symm.trans h
    refine g_iload_n X dX11_thoseThings_60 rfl 2 rfl ?_
    have hk := inr_hk h hk
    have hk : z2 = r := hk
    subst hk
    exact g_iret X hr hlk dX11_thoseThings_61 rfl
  · replace h := (if_neg c1).symm.trans h
    refine g_iload_n X dX11_thoseThings_12 rfl 2 rfl ?_
    refine g_iload_n X dX11_thoseThings_13 rfl 1 rfl ?_
    refine g_if_eq (tgt := 32) X dX11_thoseThings_14 (by decide) (fun c2 => ?_) (fun c2 => ?_)
    · replace h := (if_pos c2).symm.trans h
      refine g_aload_n X dX11_thoseThings_32 rfl 0 rfl ?_
      refine g_get X fl_RX11_61 dX11_thoseThings_33 kd_565 (v := .ref (be θ + 578)) rfl ?_
      refine g_bipush X dX11_thoseThings_36 (v := (8 : Int32)) bp_8 ?_
      refine g_iload_n X dX11_thoseThings_38 rfl 3 rfl ?_
      refine g_iadd X dX11_thoseThings_39 ?_
      obtain ⟨g3, h⟩ := ite_some h
      refine g_iald X kd_578 ln_578 (inb_in g3) dX11_thoseThings_40 ?_
      refine g_iconst X dX11_thoseThings_41 (v := (1 : Int32)) ic_1 ?_
      refine g_icmp_ne (tgt := 51) X dX11_thoseThings_42 (by decide) (fun c4 => ?_) (fun c4 => ?_)
      · replace h := (if_neg c4).symm.trans h
        refine g_iconst X dX11_thoseThings_51 (v := (0 : Int32)) ic_0 ?_
        refine g_ior X dX11_thoseThings_52 ?_
        refine g_istore_n X dX11_thoseThings_53 rfl (by decide) (lv' := [(2, .int (z2 ||| (0 : Int32))), (0, .ref (be θ + 565)), (1, .int x1), (3, .int z3)]) rfl ?_
        refine g_iinc X dX11_thoseThings_54 (kq := 3) rfl (congrArg (HAdd.hAdd _) ic_1) (by decide) (lv' := [(3, .int (z3 + (1 : Int32))), (2, .int (z2 ||| (0 : Int32))), (0, .ref (be θ + 565)), (1, .int x1)]) rfl ?_
        refine g_goto (tgt := 4) X dX11_thoseThings_57 (by decide) ?_
        have hk := inl_hk h hk
        exact g_sub (lv' := [(0, .ref (be θ + 565)), (1, .int x1), (2, .int (z2 ||| (0 : Int32))), (3, .int (z3 + (1 : Int32)))]) [2, 3, 1, 0] rfl hk
      · replace h := (if_pos c4).symm.trans h
        refine g_iconst X dX11_thoseThings_45 (v := (1 : Int32)) ic_1 ?_
        refine g_iload_n X dX11_thoseThings_46 rfl 3 rfl ?_
        refine g_ishl X dX11_thoseThings_47 ?_
        refine g_goto (tgt := 52) X dX11_thoseThings_48 (by decide) ?_
        refine g_ior X dX11_thoseThings_52 ?_
        refine g_istore_n X dX11_thoseThings_53 rfl (by decide) (lv' := [(2, .int (z2 ||| ((1 : Int32) <<< (z3 &&& 31)))), (0, .ref (be θ + 565)), (1, .int x1), (3, .int z3)]) rfl ?_
        refine g_iinc X dX11_thoseThings_54 (kq := 3) rfl (congrArg (HAdd.hAdd _) ic_1) (by decide) (lv' := [(3, .int (z3 + (1 : Int32))), (2, .int (z2 ||| ((1 : Int32) <<< (z3 &&& 31)))), (0, .ref (be θ + 565)), (1, .int x1)]) rfl ?_
        refine g_goto (tgt := 4) X dX11_thoseThings_57 (by decide) ?_
        have hk := inl_hk h hk
        exact g_sub (lv' := [(0, .ref (be θ + 565)), (1, .int x1), (2, .int (z2 ||| ((1 : Int32) <<< (z3 &&& 31)))), (3, .int (z3 + (1 : Int32)))]) [2, 3, 1, 0] rfl hk
    · replace h := (if_neg c2).symm.trans h
      refine g_aload_n X dX11_thoseThings_17 rfl 0 rfl ?_
      refine g_aload_n X dX11_thoseThings_18 rfl 0 rfl ?_
      refine g_get X fl_RX11_61 dX11_thoseThings_19 kd_565 (v := .ref (be θ + 578)) rfl ?_
      refine g_iload_n X dX11_thoseThings_22 rfl 3 rfl ?_
      obtain ⟨q5, hq5, h⟩ := Option.bind_eq_some_iff.mp h
      refine g_cV X (c_Model_isFree kd_578 hq5) lk_RX11_385 my_X11_isFree (a := 565) (ci := 11) kd_565 (by decide) rfl (As := [.ref (be θ + 578), .int z3]) (rest := [.int z2]) rfl rfl (Nat.le_of_ble_eq_true rfl) ⟨(Nat.le_of_ble_eq_true rfl), (Nat.le_of_ble_eq_true rfl)⟩ ⟨(Nat.le_of_ble_eq_true rfl), (Nat.le_of_ble_eq_true rfl)⟩ dX11_thoseThings_23 (st' := [.int q5, .int z2]) (σ' := σ) rfl rfl ?_
      refine g_if_eq (tgt := 51) X dX11_thoseThings_26 (by decide) (fun c6 => ?_) (fun c6 => ?_)
      · replace h := (if_pos c6).symm.trans h
        refine g_iconst X dX11_thoseThings_51 (v := (0 : Int32)) ic_0 ?_
        refine g_ior X dX11_thoseThings_52 ?_
        refine g_istore_n X dX11_thoseThings_53 rfl (by decide) (lv' := [(2, .int (z2 ||| (0 : Int32))), (0, .ref (be θ + 565)), (1, .int x1), (3, .int z3)]) rfl ?_
        refine g_iinc X dX11_thoseThings_54 (kq := 3) rfl (congrArg (HAdd.hAdd _) ic_1) (by decide) (lv' := [(3, .int (z3 + (1 : Int32))), (2, .int (z2 ||| (0 : Int32))), (0, .ref (be θ + 565)), (1, .int x1)]) rfl ?_
        refine g_goto (tgt := 4) X dX11_thoseThings_57 (by decide) ?_
        have hk := inl_hk h hk
        exact g_sub (lv' := [(0, .ref (be θ + 565)), (1, .int x1), (2, .int (z2 ||| (0 : Int32))), (3, .int (z3 + (1 : Int32)))]) [2, 3, 1, 0] rfl hk
      · replace h := (if_neg c6).symm.trans h
        refine g_goto (tgt := 45) X dX11_thoseThings_29 (by decide) ?_
        refine g_iconst X dX11_thoseThings_45 (v := (1 : Int32)) ic_1 ?_
        refine g_iload_n X dX11_thoseThings_46 rfl 3 rfl ?_
        refine g_ishl X dX11_thoseThings_47 ?_
        refine g_goto (tgt := 52) X dX11_thoseThings_48 (by decide) ?_
        refine g_ior X dX11_thoseThings_52 ?_
        refine g_istore_n X dX11_thoseThings_53 rfl (by decide) (lv' := [(2, .int (z2 ||| ((1 : Int32) <<< (z3 &&& 31)))), (0, .ref (be θ + 565)), (1, .int x1), (3, .int z3)]) rfl ?_
        refine g_iinc X dX11_thoseThings_54 (kq := 3) rfl (congrArg (HAdd.hAdd _) ic_1) (by decide) (lv' := [(3, .int (z3 + (1 : Int32))), (2, .int (z2 ||| ((1 : Int32) <<< (z3 &&& 31)))), (0, .ref (be θ + 565)), (1, .int x1)]) rfl ?_
        refine g_goto (tgt := 4) X dX11_thoseThings_57 (by decide) ?_
        have hk := inl_hk h hk
        exact g_sub (lv' := [(0, .ref (be θ + 565)), (1, .int x1), (2, .int (z2 ||| ((1 : Int32) <<< (z3 &&& 31)))), (3, .int (z3 + (1 : Int32)))]) [2, 3, 1, 0] rfl hk
set_option maxHeartbeats 4000000 in
set_option maxRecDepth 20000 in
theorem gl_Model_thoseThings_L4 (X : Cx θ p s m args c cX11_thoseThings 4 RX11) (hr : meth.sig.returnType = some .int) (hlk : meth.locks = false)  {σ : Mem} {x1 : Int32} {r : Int32}  (n : Nat) (a : Int32 × Int32) (b : Int32) (h : loopF (f_Model_thoseThings_L4 σ x1) n a = some b) (hk : (fun b => b = r) b) : (fun a => @Prod.casesOn (Int32) (Int32) (fun _ => Prop) a fun z2 z3 => GB θ p l e 2 s m args below meth c 4 (some (.int r), σ) 4 [(0, .ref (be θ + 565)), (1, .int x1), (2, .int z2), (3, .int z3)] [] σ) a :=
  loopF_by (P := (fun a => @Prod.casesOn (Int32) (Int32) (fun _ => Prop) a fun z2 z3 => GB θ p l e 2 s m args below meth c 4 (some (.int r), σ) 4 [(0, .ref (be θ + 565)), (1, .int x1), (2, .int z2), (3, .int z3)] [] σ)) (K := (fun b => b = r)) (fun a x h hk => by obtain ⟨z2, z3⟩ := a; exact gs_Model_thoseThings_L4 X hr hlk   z2 z3 x h hk) n a b h hk
set_option maxHeartbeats 4000000 in
set_option maxRecDepth 20000 in
theorem g_Model_thoseThings (X : Cx θ p s m args c cX11_thoseThings 4 RX11) (hr : meth.sig.returnType = some .int) (hlk : meth.locks = false)  {σ : Mem} {x1 : Int32} {r : Int32}  (h : f_Model_thoseThings σ x1 = some r) : GB θ p l e 2 s m args below meth c 4 (some (.int r), σ) 0 [(0, .ref (be θ + 565)), (1, .int x1)] [] σ := by
  unfold f_Model_thoseThings at h
  refine g_iconst X dX11_thoseThings_0 (v := (0 : Int32)) ic_0 ?_
  refine g_istore_n X dX11_thoseThings_1 rfl (by decide) (lv' := [(2, .int (0 : Int32)), (0, .ref (be θ + 565)), (1, .int x1)]) rfl ?_
  refine g_iconst X dX11_thoseThings_2 (v := (0 : Int32)) ic_0 ?_
  refine g_istore_n X dX11_thoseThings_3 rfl (by decide) (lv' := [(3, .int (0 : Int32)), (2, .int (0 : Int32)), (0, .ref (be θ + 565)), (1, .int x1)]) rfl ?_
  exact g_sub (lv' := [(0, .ref (be θ + 565)), (1, .int x1), (2, .int (0 : Int32)), (3, .int (0 : Int32))]) [2, 3, 1, 0] rfl (gl_Model_thoseThings_L4 X hr hlk    FU _ _ h rfl)
set_option maxHeartbeats 4000000 in
set_option maxRecDepth 20000 in
theorem c_Model_thoseThings {θ : Th} {l : Launch} {σ : Mem} {x1 : Int32} {r : Int32}  (h : f_Model_thoseThings σ x1 = some r) : Cn θ l yX11_thoseThings cX11_thoseThings 4 (some .int) 2 0 0 [.ref (be θ + 565), .int x1] σ (some (.int r), σ) :=
  Cn.of (by decide) (Nat.le_of_ble_eq_true rfl) (fun p e s m below meth c X hr hlk => g_Model_thoseThings X hr hlk  h)
theorem dX11_afraid_0 : decode cX11_afraid 0 = .ok (.iconst 0, 1) := by decide +kernel
theorem dX11_afraid_1 : decode cX11_afraid 1 = .ok (.istore_n 1, 1) := by decide +kernel
theorem dX11_afraid_2 : decode cX11_afraid 2 = .ok (.iconst 0, 1) := by decide +kernel
theorem dX11_afraid_3 : decode cX11_afraid 3 = .ok (.istore_n 2, 1) := by decide +kernel
theorem dX11_afraid_4 : decode cX11_afraid 4 = .ok (.iload_n 2, 1) := by decide +kernel
theorem dX11_afraid_5 : decode cX11_afraid 5 = .ok (.aload_n 0, 1) := by decide +kernel
theorem dX11_afraid_6 : decode cX11_afraid 6 = .ok (.getfield 310, 3) := by decide +kernel
theorem dX11_afraid_9 : decode cX11_afraid 9 = .ok (.if_icmp .ge 43, 3) := by decide +kernel
theorem dX11_afraid_12 : decode cX11_afraid 12 = .ok (.iload_n 1, 1) := by decide +kernel
theorem dX11_afraid_13 : decode cX11_afraid 13 = .ok (.aload_n 0, 1) := by decide +kernel
theorem dX11_afraid_14 : decode cX11_afraid 14 = .ok (.getfield 61, 3) := by decide +kernel
theorem dX11_afraid_17 : decode cX11_afraid 17 = .ok (.iload_n 2, 1) := by decide +kernel
theorem dX11_afraid_18 : decode cX11_afraid 18 = .ok (.invokestatic 382, 3) := by decide +kernel
theorem dX11_afraid_21 : decode cX11_afraid 21 = .ok (.bipush 6, 2) := by decide +kernel
theorem dX11_afraid_23 : decode cX11_afraid 23 = .ok (.aload_n 0, 1) := by decide +kernel
theorem dX11_afraid_24 : decode cX11_afraid 24 = .ok (.getfield 49, 3) := by decide +kernel
theorem dX11_afraid_27 : decode cX11_afraid 27 = .ok (.iconst 4, 1) := by decide +kernel
theorem dX11_afraid_28 : decode cX11_afraid 28 = .ok (.iload_n 2, 1) := by decide +kernel
theorem dX11_afraid_29 : decode cX11_afraid 29 = .ok (.imul, 1) := by decide +kernel
theorem dX11_afraid_30 : decode cX11_afraid 30 = .ok (.iconst 2, 1) := by decide +kernel
theorem dX11_afraid_31 : decode cX11_afraid 31 = .ok (.iadd, 1) := by decide +kernel
theorem dX11_afraid_32 : decode cX11_afraid 32 = .ok (.iaload, 1) := by decide +kernel
theorem dX11_afraid_33 : decode cX11_afraid 33 = .ok (.imul, 1) := by decide +kernel
theorem dX11_afraid_34 : decode cX11_afraid 34 = .ok (.if_icmp .le 9, 3) := by decide +kernel
theorem dX11_afraid_37 : decode cX11_afraid 37 = .ok (.iconst 1, 1) := by decide +kernel
theorem dX11_afraid_38 : decode cX11_afraid 38 = .ok (.iload_n 2, 1) := by decide +kernel
theorem dX11_afraid_39 : decode cX11_afraid 39 = .ok (.ishl, 1) := by decide +kernel
theorem dX11_afraid_40 : decode cX11_afraid 40 = .ok (.goto 4, 3) := by decide +kernel
theorem dX11_afraid_43 : decode cX11_afraid 43 = .ok (.iconst 0, 1) := by decide +kernel
theorem dX11_afraid_44 : decode cX11_afraid 44 = .ok (.ior, 1) := by decide +kernel
theorem dX11_afraid_45 : decode cX11_afraid 45 = .ok (.istore_n 1, 1) := by decide +kernel
theorem dX11_afraid_46 : decode cX11_afraid 46 = .ok (.iinc 2 1, 3) := by decide +kernel
theorem dX11_afraid_49 : decode cX11_afraid 49 = .ok (.goto (-45), 3) := by decide +kernel
theorem dX11_afraid_52 : decode cX11_afraid 52 = .ok (.iload_n 1, 1) := by decide +kernel
theorem dX11_afraid_53 : decode cX11_afraid 53 = .ok (.ireturn, 1) := by decide +kernel
def f_Model_afraid_L4 (σ : Mem) (a : Int32 × Int32) : Option ((Int32 × Int32) ⊕ (Int32)) :=
  @Prod.casesOn (Int32) (Int32) (fun _ => Option ((Int32 × Int32) ⊕ (Int32))) a fun z1 z2 =>
  if (mI σ 565 27) ≤ z2 then
    some (.inr z1)
  else
    (f_Model_dueOf σ 578 z2).bind fun q2 =>
    if inb (((4 : Int32) * z2) + (2 : Int32)) 24 then
      if q2 ≤ ((6 : Int32) * (mI σ 574 (((4 : Int32) * z2) + (2 : Int32)).toNatClampNeg)) then
        some (.inl ((z1 ||| (0 : Int32)), (z2 + (1 : Int32))))
      else
        some (.inl ((z1 ||| ((1 : Int32) <<< (z2 &&& 31))), (z2 + (1 : Int32))))
    else none
def f_Model_afraid (σ : Mem)  : Option (Int32) :=
  loopF (f_Model_afraid_L4 σ) FU ((0 : Int32), (0 : Int32))
set_option maxHeartbeats 4000000 in
set_option maxRecDepth 20000 in
theorem gs_Model_afraid_L4 (X : Cx θ p s m args c cX11_afraid 3 RX11) (hr : meth.sig.returnType = some .int) (hlk : meth.locks = false)  {σ : Mem} {r : Int32}  (z1 : Int32) (z2 : Int32) (x : (Int32 × Int32) ⊕ (Int32)) (h : f_Model_afraid_L4 σ (z1, z2) = some x) (hk : Sum.elim (fun a => @Prod.casesOn (Int32) (Int32) (fun _ => Prop) a fun z1 z2 => GB θ p l e 1 s m args below meth c 3 (some (.int r), σ) 4 [(0, .ref (be θ + 565)), (1, .int z1), (2, .int z2)] [] σ) (fun b => b = r) x) : GB θ p l e 1 s m args below meth c 3 (some (.int r), σ) 4 [(0, .ref (be θ + 565)), (1, .int z1), (2, .int z2)] [] σ := by
  unfold f_Model_afraid_L4 at h
  dsimp only at h
  refine g_iload_n X dX11_afraid_4 rfl 2 rfl ?_
  refine g_aload_n X dX11_afraid_5 rfl 0 rfl ?_
  refine g_get X fl_RX11_310 dX11_afraid_6 kd_565 (v := .int (mI σ 565 27)) rfl ?_
  refine g_icmp_ge (tgt := 52) X dX11_afraid_9 (by decide) (fun c1 => ?_) (fun c1 => ?_)
  · replace h := (if_pos c1).symm.trans h
    refine g_iload_n X dX11_afraid_52 rfl 1 rfl ?_
    have hk := inr_hk h hk
    have hk : z1 = r := hk
    subst hk
    exact g_iret X hr hlk dX11_afraid_53 rfl
  · replace h := (if_neg c1).symm.trans h
    refine g_iload_n X dX11_afraid_12 rfl 1 rfl ?_
    refine g_aload_n X dX11_afraid_13 rfl 0 rfl ?_
    refine g_get X fl_RX11_61 dX11_afraid_14 kd_565 (v := .ref (be θ + 578)) rfl ?_
    refine g_iload_n X dX11_afraid_17 rfl 2 rfl ?_
    obtain ⟨q2, hq2, h⟩ := Option.bind_eq_some_iff.mp h
    refine g_cS X (c_Model_dueOf kd_578 hq2) lk_RX11_382 my_X11_dueOf (As := [.ref (be θ + 578), .int z2]) (rest := [.int z1]) rfl rfl (Nat.le_of_ble_eq_true rfl) ⟨(Nat.le_of_ble_eq_true rfl), (Nat.le_of_ble_eq_true rfl)⟩ ⟨(Nat.le_of_ble_eq_true rfl), (Nat.le_of_ble_eq_true rfl)⟩ dX11_afraid_18 (st' := [.int q2, .int z1]) (σ' := σ) rfl rfl ?_
    refine g_bipush X dX11_afraid_21 (v := (6 : Int32)) bp_6 ?_
    refine g_aload_n X dX11_afraid_23 rfl 0 rfl ?_
    refine g_get X fl_RX11_49 dX11_afraid_24 kd_565 (v := .ref (be θ + 574)) rfl ?_
    refine g_iconst X dX11_afraid_27 (v := (4 : Int32)) ic_4 ?_
    refine g_iload_n X dX11_afraid_28 rfl 2 rfl ?_
    refine g_imul X dX11_afraid_29 ?_
    refine g_iconst X dX11_afraid_30 (v := (2 : Int32)) ic_2 ?_
    refine g_iadd X dX11_afraid_31 ?_
    obtain ⟨g3, h⟩ := ite_some h
    refine g_iald X kd_574 ln_574 (inb_in g3) dX11_afraid_32 ?_
    refine g_imul X dX11_afraid_33 ?_
    refine g_icmp_le (tgt := 43) X dX11_afraid_34 (by decide) (fun c4 => ?_) (fun c4 => ?_)
    · replace h := (if_pos c4).symm.trans h
      refine g_iconst X dX11_afraid_43 (v := (0 : Int32)) ic_0 ?_
      refine g_ior X dX11_afraid_44 ?_
      refine g_istore_n X dX11_afraid_45 rfl (by decide) (lv' := [(1, .int (z1 ||| (0 : Int32))), (0, .ref (be θ + 565)), (2, .int z2)]) rfl ?_
      refine g_iinc X dX11_afraid_46 (kq := 2) rfl (congrArg (HAdd.hAdd _) ic_1) (by decide) (lv' := [(2, .int (z2 + (1 : Int32))), (1, .int (z1 ||| (0 : Int32))), (0, .ref (be θ + 565))]) rfl ?_
      refine g_goto (tgt := 4) X dX11_afraid_49 (by decide) ?_
      have hk := inl_hk h hk
      exact g_sub (lv' := [(0, .ref (be θ + 565)), (1, .int (z1 ||| (0 : Int32))), (2, .int (z2 + (1 : Int32)))]) [2, 1, 0] rfl hk
    · replace h := (if_neg c4).symm.trans h
      refine g_iconst X dX11_afraid_37 (v := (1 : Int32)) ic_1 ?_
      refine g_iload_n X dX11_afraid_38 rfl 2 rfl ?_
      refine g_ishl X dX11_afraid_39 ?_
      refine g_goto (tgt := 44) X dX11_afraid_40 (by decide) ?_
      refine g_ior X dX11_afraid_44 ?_
      refine g_istore_n X dX11_afraid_45 rfl (by decide) (lv' := [(1, .int (z1 ||| ((1 : Int32) <<< (z2 &&& 31)))), (0, .ref (be θ + 565)), (2, .int z2)]) rfl ?_
      refine g_iinc X dX11_afraid_46 (kq := 2) rfl (congrArg (HAdd.hAdd _) ic_1) (by decide) (lv' := [(2, .int (z2 + (1 : Int32))), (1, .int (z1 ||| ((1 : Int32) <<< (z2 &&& 31)))), (0, .ref (be θ + 565))]) rfl ?_
      refine g_goto (tgt := 4) X dX11_afraid_49 (by decide) ?_
      have hk := inl_hk h hk
      exact g_sub (lv' := [(0, .ref (be θ + 565)), (1, .int (z1 ||| ((1 : Int32) <<< (z2 &&& 31)))), (2, .int (z2 + (1 : Int32)))]) [2, 1, 0] rfl hk
set_option maxHeartbeats 4000000 in
set_option maxRecDepth 20000 in
theorem gl_Model_afraid_L4 (X : Cx θ p s m args c cX11_afraid 3 RX11) (hr : meth.sig.returnType = some .int) (hlk : meth.locks = false)  {σ : Mem} {r : Int32}  (n : Nat) (a : Int32 × Int32) (b : Int32) (h : loopF (f_Model_afraid_L4 σ) n a = some b) (hk : (fun b => b = r) b) : (fun a => @Prod.casesOn (Int32) (Int32) (fun _ => Prop) a fun z1 z2 => GB θ p l e 1 s m args below meth c 3 (some (.int r), σ) 4 [(0, .ref (be θ + 565)), (1, .int z1), (2, .int z2)] [] σ) a :=
  loopF_by (P := (fun a => @Prod.casesOn (Int32) (Int32) (fun _ => Prop) a fun z1 z2 => GB θ p l e 1 s m args below meth c 3 (some (.int r), σ) 4 [(0, .ref (be θ + 565)), (1, .int z1), (2, .int z2)] [] σ)) (K := (fun b => b = r)) (fun a x h hk => by obtain ⟨z1, z2⟩ := a; exact gs_Model_afraid_L4 X hr hlk   z1 z2 x h hk) n a b h hk
set_option maxHeartbeats 4000000 in
set_option maxRecDepth 20000 in
theorem g_Model_afraid (X : Cx θ p s m args c cX11_afraid 3 RX11) (hr : meth.sig.returnType = some .int) (hlk : meth.locks = false)  {σ : Mem}  {r : Int32}  (h : f_Model_afraid σ  = some r) : GB θ p l e 1 s m args below meth c 3 (some (.int r), σ) 0 [(0, .ref (be θ + 565))] [] σ := by
  unfold f_Model_afraid at h
  refine g_iconst X dX11_afraid_0 (v := (0 : Int32)) ic_0 ?_
  refine g_istore_n X dX11_afraid_1 rfl (by decide) (lv' := [(1, .int (0 : Int32)), (0, .ref (be θ + 565))]) rfl ?_
  refine g_iconst X dX11_afraid_2 (v := (0 : Int32)) ic_0 ?_
  refine g_istore_n X dX11_afraid_3 rfl (by decide) (lv' := [(2, .int (0 : Int32)), (1, .int (0 : Int32)), (0, .ref (be θ + 565))]) rfl ?_
  exact g_sub (lv' := [(0, .ref (be θ + 565)), (1, .int (0 : Int32)), (2, .int (0 : Int32))]) [2, 1, 0] rfl (gl_Model_afraid_L4 X hr hlk    FU _ _ h rfl)
set_option maxHeartbeats 4000000 in
set_option maxRecDepth 20000 in
theorem c_Model_afraid {θ : Th} {l : Launch} {σ : Mem}  {r : Int32}  (h : f_Model_afraid σ  = some r) : Cn θ l yX11_afraid cX11_afraid 3 (some .int) 1 0 0 [.ref (be θ + 565)] σ (some (.int r), σ) :=
  Cn.of (by decide) (Nat.le_of_ble_eq_true rfl) (fun p e s m below meth c X hr hlk => g_Model_afraid X hr hlk  h)
theorem dX11_all_0 : decode cX11_all 0 = .ok (.aload_n 0, 1) := by decide +kernel
theorem dX11_all_1 : decode cX11_all 1 = .ok (.iconst 0, 1) := by decide +kernel
theorem dX11_all_2 : decode cX11_all 2 = .ok (.putfield 112, 3) := by decide +kernel
theorem dX11_all_5 : decode cX11_all 5 = .ok (.aload_n 0, 1) := by decide +kernel
theorem dX11_all_6 : decode cX11_all 6 = .ok (.getfield 310, 3) := by decide +kernel
theorem dX11_all_9 : decode cX11_all 9 = .ok (.ifCond .ne 7, 3) := by decide +kernel
theorem dX11_all_12 : decode cX11_all 12 = .ok (.ldc_w 411, 3) := by decide +kernel
theorem dX11_all_15 : decode cX11_all 15 = .ok (.ireturn, 1) := by decide +kernel
theorem dX11_all_16 : decode cX11_all 16 = .ok (.iload_n 1, 1) := by decide +kernel
theorem dX11_all_17 : decode cX11_all 17 = .ok (.tableswitch 123 0 12 #[67, 67, 67, 67, 67, 67, 73, 82, 88, 94, 99, 107, 116], 67) := by decide +kernel
theorem dX11_all_84 : decode cX11_all 84 = .ok (.aload_n 0, 1) := by decide +kernel
theorem dX11_all_85 : decode cX11_all 85 = .ok (.iload_n 1, 1) := by decide +kernel
theorem dX11_all_86 : decode cX11_all 86 = .ok (.invokevirtual 518, 3) := by decide +kernel
theorem dX11_all_89 : decode cX11_all 89 = .ok (.ireturn, 1) := by decide +kernel
theorem dX11_all_90 : decode cX11_all 90 = .ok (.aload_n 0, 1) := by decide +kernel
theorem dX11_all_91 : decode cX11_all 91 = .ok (.aload_n 0, 1) := by decide +kernel
theorem dX11_all_92 : decode cX11_all 92 = .ok (.getfield 61, 3) := by decide +kernel
theorem dX11_all_95 : decode cX11_all 95 = .ok (.invokevirtual 405, 3) := by decide +kernel
theorem dX11_all_98 : decode cX11_all 98 = .ok (.ireturn, 1) := by decide +kernel
theorem dX11_all_99 : decode cX11_all 99 = .ok (.aload_n 0, 1) := by decide +kernel
theorem dX11_all_100 : decode cX11_all 100 = .ok (.iconst 1, 1) := by decide +kernel
theorem dX11_all_101 : decode cX11_all 101 = .ok (.invokevirtual 521, 3) := by decide +kernel
theorem dX11_all_104 : decode cX11_all 104 = .ok (.ireturn, 1) := by decide +kernel
theorem dX11_all_105 : decode cX11_all 105 = .ok (.aload_n 0, 1) := by decide +kernel
theorem dX11_all_106 : decode cX11_all 106 = .ok (.iconst 0, 1) := by decide +kernel
theorem dX11_all_107 : decode cX11_all 107 = .ok (.invokevirtual 521, 3) := by decide +kernel
theorem dX11_all_110 : decode cX11_all 110 = .ok (.ireturn, 1) := by decide +kernel
theorem dX11_all_111 : decode cX11_all 111 = .ok (.aload_n 0, 1) := by decide +kernel
theorem dX11_all_112 : decode cX11_all 112 = .ok (.invokevirtual 525, 3) := by decide +kernel
theorem dX11_all_115 : decode cX11_all 115 = .ok (.ireturn, 1) := by decide +kernel
theorem dX11_all_116 : decode cX11_all 116 = .ok (.aload_n 0, 1) := by decide +kernel
theorem dX11_all_117 : decode cX11_all 117 = .ok (.getfield 61, 3) := by decide +kernel
theorem dX11_all_120 : decode cX11_all 120 = .ok (.invokestatic 471, 3) := by decide +kernel
theorem dX11_all_123 : decode cX11_all 123 = .ok (.ireturn, 1) := by decide +kernel
theorem dX11_all_124 : decode cX11_all 124 = .ok (.aload_n 0, 1) := by decide +kernel
theorem dX11_all_125 : decode cX11_all 125 = .ok (.getfield 61, 3) := by decide +kernel
theorem dX11_all_128 : decode cX11_all 128 = .ok (.sipush 128, 3) := by decide +kernel
theorem dX11_all_131 : decode cX11_all 131 = .ok (.iaload, 1) := by decide +kernel
theorem dX11_all_132 : decode cX11_all 132 = .ok (.ireturn, 1) := by decide +kernel
theorem dX11_all_133 : decode cX11_all 133 = .ok (.aload_n 0, 1) := by decide +kernel
theorem dX11_all_134 : decode cX11_all 134 = .ok (.bipush 6, 2) := by decide +kernel
theorem dX11_all_136 : decode cX11_all 136 = .ok (.invokevirtual 518, 3) := by decide +kernel
theorem dX11_all_139 : decode cX11_all 139 = .ok (.ireturn, 1) := by decide +kernel
theorem dX11_all_140 : decode cX11_all 140 = .ok (.ldc_w 411, 3) := by decide +kernel
theorem dX11_all_143 : decode cX11_all 143 = .ok (.ireturn, 1) := by decide +kernel
def f_Model_all (σ : Mem) (x1 : Int32) : Option (Int32 × Mem) :=
  if (mI (sI σ 565 0 (0 : Int32)) 565 27) = (0 : Int32) then
    some ((-1000000 : Int32), (sI σ 565 0 (0 : Int32)))
  else
    if x1 = (0 : Int32) then
      (f_Model_greatest (sI σ 565 0 (0 : Int32)) x1).bind fun q3 =>
      some (q3.1, q3.2)
    else
    if x1 = (1 : Int32) then
      (f_Model_greatest (sI σ 565 0 (0 : Int32)) x1).bind fun q5 =>
      some (q5.1, q5.2)
    else
    if x1 = (2 : Int32) then
      (f_Model_greatest (sI σ 565 0 (0 : Int32)) x1).bind fun q7 =>
      some (q7.1, q7.2)
    else
    if x1 = (3 : Int32) then
      (f_Model_greatest (sI σ 565 0 (0 : Int32)) x1).bind fun q9 =>
      some (q9.1, q9.2)
    else
    if x1 = (4 : Int32) then
      (f_Model_greatest (sI σ 565 0 (0 : Int32)) x1).bind fun q11 =>
      some (q11.1, q11.2)
    else
    if x1 = (5 : Int32) then
      (f_Model_greatest (sI σ 565 0 (0 : Int32)) x1).bind fun q13 =>
      some (q13.1, q13.2)
    else
    if x1 = (6 : Int32) then
      (f_Model_holders (sI σ 565 0 (0 : Int32)) 578).bind fun q15 =>
      some (q15, (sI σ 565 0 (0 : Int32)))
    else
    if x1 = (7 : Int32) then
      (f_Model_thoseThings (sI σ 565 0 (0 : Int32)) (1 : Int32)).bind fun q17 =>
      some (q17, (sI σ 565 0 (0 : Int32)))
    else
    if x1 = (8 : Int32) then
      (f_Model_thoseThings (sI σ 565 0 (0 : Int32)) (0 : Int32)).bind fun q19 =>
      some (q19, (sI σ 565 0 (0 : Int32)))
    else
    if x1 = (9 : Int32) then
      (f_Model_afraid (sI σ 565 0 (0 : Int32))).bind fun q21 =>
      some (q21, (sI σ 565 0 (0 : Int32)))
    else
    if x1 = (10 : Int32) then
      (f_Model_allDue (sI σ 565 0 (0 : Int32)) 578).bind fun q23 =>
      some (q23, (sI σ 565 0 (0 : Int32)))
    else
    if x1 = (11 : Int32) then
      some ((mI (sI σ 565 0 (0 : Int32)) 578 (128 : Int32).toNatClampNeg), (sI σ 565 0 (0 : Int32)))
    else
    if x1 = (12 : Int32) then
      (f_Model_greatest (sI σ 565 0 (0 : Int32)) (6 : Int32)).bind fun q26 =>
      some (q26.1, q26.2)
    else
    some ((-1000000 : Int32), (sI σ 565 0 (0 : Int32)))
set_option maxHeartbeats 4000000 in
set_option maxRecDepth 20000 in
theorem g_Model_all (X : Cx θ p s m args c cX11_all 2 RX11) (hr : meth.sig.returnType = some .int) (hlk : meth.locks = false)  {σ : Mem} {x1 : Int32} {r : Int32 × Mem}  (h : f_Model_all σ x1 = some r) : GB θ p l e 67 s m args below meth c 2 (some (.int r.1), r.2) 0 [(0, .ref (be θ + 565)), (1, .int x1)] [] σ := by
  unfold f_Model_all at h
  refine g_aload_n X dX11_all_0 rfl 0 rfl ?_
  refine g_iconst X dX11_all_1 (v := (0 : Int32)) ic_0 ?_
  refine g_putI X fl_RX11_112 dX11_all_2 kd_565 rfl rfl rfl ?_
  refine g_aload_n X dX11_all_5 rfl 0 rfl ?_
  refine g_get X fl_RX11_310 dX11_all_6 kd_565 (v := .int (mI (sI σ 565 0 (0 : Int32)) 565 27)) rfl ?_
  refine g_if_ne (tgt := 16) X dX11_all_9 (by decide) (fun c1 => ?_) (fun c1 => ?_)
  · replace h := (if_neg c1).symm.trans h
    refine g_iload_n X dX11_all_16 rfl 1 rfl ?_
    by_cases c2 : x1 = (0 : Int32)
    · replace h := (if_pos c2).symm.trans h
      refine g_tableIn (tgt := 84) (off := 67) X dX11_all_17 (by rw [c2]; decide) (by rw [c2]; decide) (by rw [c2]; rfl) (by decide) ?_
      refine g_aload_n X dX11_all_84 rfl 0 rfl ?_
      refine g_iload_n X dX11_all_85 rfl 1 rfl ?_
      obtain ⟨q3, hq3, h⟩ := Option.bind_eq_some_iff.mp h
      refine g_cV X (c_Model_greatest  hq3) lk_RX11_518 my_X11_greatest (a := 565) (ci := 11) kd_565 (by decide) rfl (As := [.int x1]) (rest := []) rfl rfl (Nat.le_of_ble_eq_true rfl) ⟨(Nat.le_of_ble_eq_true rfl), (Nat.le_of_ble_eq_true rfl)⟩ ⟨(Nat.le_of_ble_eq_true rfl), (Nat.le_of_ble_eq_true rfl)⟩ dX11_all_86 (st' := [.int q3.1]) (σ' := q3.2) rfl rfl ?_
      exact g_iret X hr hlk dX11_all_89 (by cases h; rfl)
    replace h := (if_neg c2).symm.trans h
    by_cases c4 : x1 = (1 : Int32)
    · replace h := (if_pos c4).symm.trans h
      refine g_tableIn (tgt := 84) (off := 67) X dX11_all_17 (by rw [c4]; decide) (by rw [c4]; decide) (by rw [c4]; rfl) (by decide) ?_
      refine g_aload_n X dX11_all_84 rfl 0 rfl ?_
      refine g_iload_n X dX11_all_85 rfl 1 rfl ?_
      obtain ⟨q5, hq5, h⟩ := Option.bind_eq_some_iff.mp h
      refine g_cV X (c_Model_greatest  hq5) lk_RX11_518 my_X11_greatest (a := 565) (ci := 11) kd_565 (by decide) rfl (As := [.int x1]) (rest := []) rfl rfl (Nat.le_of_ble_eq_true rfl) ⟨(Nat.le_of_ble_eq_true rfl), (Nat.le_of_ble_eq_true rfl)⟩ ⟨(Nat.le_of_ble_eq_true rfl), (Nat.le_of_ble_eq_true rfl)⟩ dX11_all_86 (st' := [.int q5.1]) (σ' := q5.2) rfl rfl ?_
      exact g_iret X hr hlk dX11_all_89 (by cases h; rfl)
    replace h := (if_neg c4).symm.trans h
    by_cases c6 : x1 = (2 : Int32)
    · replace h := (if_pos c6).symm.trans h
      refine g_tableIn (tgt := 84) (off := 67) X dX11_all_17 (by rw [c6]; decide) (by rw [c6]; decide) (by rw [c6]; rfl) (by decide) ?_
      refine g_aload_n X dX11_all_84 rfl 0 rfl ?_
      refine g_iload_n X dX11_all_85 rfl 1 rfl ?_
      obtain ⟨q7, hq7, h⟩ := Option.bind_eq_some_iff.mp h
      refine g_cV X (c_Model_greatest  hq7) lk_RX11_518 my_X11_greatest (a := 565) (ci := 11) kd_565 (by decide) rfl (As := [.int x1]) (rest := []) rfl rfl (Nat.le_of_ble_eq_true rfl) ⟨(Nat.le_of_ble_eq_true rfl), (Nat.le_of_ble_eq_true rfl)⟩ ⟨(Nat.le_of_ble_eq_true rfl), (Nat.le_of_ble_eq_true rfl)⟩ dX11_all_86 (st' := [.int q7.1]) (σ' := q7.2) rfl rfl ?_
      exact g_iret X hr hlk dX11_all_89 (by cases h; rfl)
    replace h := (if_neg c6).symm.trans h
    by_cases c8 : x1 = (3 : Int32)
    · replace h := (if_pos c8).symm.trans h
      refine g_tableIn (tgt := 84) (off := 67) X dX11_all_17 (by rw [c8]; decide) (by rw [c8]; decide) (by rw [c8]; rfl) (by decide) ?_
      refine g_aload_n X dX11_all_84 rfl 0 rfl ?_
      refine g_iload_n X dX11_all_85 rfl 1 rfl ?_
      obtain ⟨q9, hq9, h⟩ := Option.bind_eq_some_iff.mp h
      refine g_cV X (c_Model_greatest  hq9) lk_RX11_518 my_X11_greatest (a := 565) (ci := 11) kd_565 (by decide) rfl (As := [.int x1]) (rest := []) rfl rfl (Nat.le_of_ble_eq_true rfl) ⟨(Nat.le_of_ble_eq_true rfl), (Nat.le_of_ble_eq_true rfl)⟩ ⟨(Nat.le_of_ble_eq_true rfl), (Nat.le_of_ble_eq_true rfl)⟩ dX11_all_86 (st' := [.int q9.1]) (σ' := q9.2) rfl rfl ?_
      exact g_iret X hr hlk dX11_all_89 (by cases h; rfl)
    replace h := (if_neg c8).symm.trans h
    by_cases c10 : x1 = (4 : Int32)
    · replace h := (if_pos c10).symm.trans h
      refine g_tableIn (tgt := 84) (off := 67) X dX11_all_17 (by rw [c10]; decide) (by rw [c10]; decide) (by rw [c10]; rfl) (by decide) ?_
      refine g_aload_n X dX11_all_84 rfl 0 rfl ?_
      refine g_iload_n X dX11_all_85 rfl 1 rfl ?_
      obtain ⟨q11, hq11, h⟩ := Option.bind_eq_some_iff.mp h
      refine g_cV X (c_Model_greatest  hq11) lk_RX11_518 my_X11_greatest (a := 565) (ci := 11) kd_565 (by decide) rfl (As := [.int x1]) (rest := []) rfl rfl (Nat.le_of_ble_eq_true rfl) ⟨(Nat.le_of_ble_eq_true rfl), (Nat.le_of_ble_eq_true rfl)⟩ ⟨(Nat.le_of_ble_eq_true rfl), (Nat.le_of_ble_eq_true rfl)⟩ dX11_all_86 (st' := [.int q11.1]) (σ' := q11.2) rfl rfl ?_
      exact g_iret X hr hlk dX11_all_89 (by cases h; rfl)
    replace h := (if_neg c10).symm.trans h
    by_cases c12 : x1 = (5 : Int32)
    · replace h := (if_pos c12).symm.trans h
      refine g_tableIn (tgt := 84) (off := 67) X dX11_all_17 (by rw [c12]; decide) (by rw [c12]; decide) (by rw [c12]; rfl) (by decide) ?_
      refine g_aload_n X dX11_all_84 rfl 0 rfl ?_
      refine g_iload_n X dX11_all_85 rfl 1 rfl ?_
      obtain ⟨q13, hq13, h⟩ := Option.bind_eq_some_iff.mp h
      refine g_cV X (c_Model_greatest  hq13) lk_RX11_518 my_X11_greatest (a := 565) (ci := 11) kd_565 (by decide) rfl (As := [.int x1]) (rest := []) rfl rfl (Nat.le_of_ble_eq_true rfl) ⟨(Nat.le_of_ble_eq_true rfl), (Nat.le_of_ble_eq_true rfl)⟩ ⟨(Nat.le_of_ble_eq_true rfl), (Nat.le_of_ble_eq_true rfl)⟩ dX11_all_86 (st' := [.int q13.1]) (σ' := q13.2) rfl rfl ?_
      exact g_iret X hr hlk dX11_all_89 (by cases h; rfl)
    replace h := (if_neg c12).symm.trans h
    by_cases c14 : x1 = (6 : Int32)
    · replace h := (if_pos c14).symm.trans h
      refine g_tableIn (tgt := 90) (off := 73) X dX11_all_17 (by rw [c14]; decide) (by rw [c14]; decide) (by rw [c14]; rfl) (by decide) ?_
      refine g_aload_n X dX11_all_90 rfl 0 rfl ?_
      refine g_aload_n X dX11_all_91 rfl 0 rfl ?_
      refine g_get X fl_RX11_61 dX11_all_92 kd_565 (v := .ref (be θ + 578)) rfl ?_
      obtain ⟨q15, hq15, h⟩ := Option.bind_eq_some_iff.mp h
      refine g_cV X (c_Model_holders kd_578 hq15) lk_RX11_405 my_X11_holders (a := 565) (ci := 11) kd_565 (by decide) rfl (As := [.ref (be θ + 578)]) (rest := []) rfl rfl (Nat.le_of_ble_eq_true rfl) ⟨(Nat.le_of_ble_eq_true rfl), (Nat.le_of_ble_eq_true rfl)⟩ ⟨(Nat.le_of_ble_eq_true rfl), (Nat.le_of_ble_eq_true rfl)⟩ dX11_all_95 (st' := [.int q15]) (σ' := (sI σ 565 0 (0 : Int32))) rfl rfl ?_
      exact g_iret X hr hlk dX11_all_98 (by cases h; rfl)
    replace h := (if_neg c14).symm.trans h
    by_cases c16 : x1 = (7 : Int32)
    · replace h := (if_pos c16).symm.trans h
      refine g_tableIn (tgt := 99) (off := 82) X dX11_all_17 (by rw [c16]; decide) (by rw [c16]; decide) (by rw [c16]; rfl) (by decide) ?_
      refine g_aload_n X dX11_all_99 rfl 0 rfl ?_
      refine g_iconst X dX11_all_100 (v := (1 : Int32)) ic_1 ?_
      obtain ⟨q17, hq17, h⟩ := Option.bind_eq_some_iff.mp h
      refine g_cV X (c_Model_thoseThings  hq17) lk_RX11_521 my_X11_thoseThings (a := 565) (ci := 11) kd_565 (by decide) rfl (As := [.int (1 : Int32)]) (rest := []) rfl rfl (Nat.le_of_ble_eq_true rfl) ⟨(Nat.le_of_ble_eq_true rfl), (Nat.le_of_ble_eq_true rfl)⟩ ⟨(Nat.le_of_ble_eq_true rfl), (Nat.le_of_ble_eq_true rfl)⟩ dX11_all_101 (st' := [.int q17]) (σ' := (sI σ 565 0 (0 : Int32))) rfl rfl ?_
      exact g_iret X hr hlk dX11_all_104 (by cases h; rfl)
    replace h := (if_neg c16).symm.trans h
    by_cases c18 : x1 = (8 : Int32)
    · replace h := (if_pos c18).symm.trans h
      refine g_tableIn (tgt := 105) (off := 88) X dX11_all_17 (by rw [c18]; decide) (by rw [c18]; decide) (by rw [c18]; rfl) (by decide) ?_
      refine g_aload_n X dX11_all_105 rfl 0 rfl ?_
      refine g_iconst X dX11_all_106 (v := (0 : Int32)) ic_0 ?_
      obtain ⟨q19, hq19, h⟩ := Option.bind_eq_some_iff.mp h
      refine g_cV X (c_Model_thoseThings  hq19) lk_RX11_521 my_X11_thoseThings (a := 565) (ci := 11) kd_565 (by decide) rfl (As := [.int (0 : Int32)]) (rest := []) rfl rfl (Nat.le_of_ble_eq_true rfl) ⟨(Nat.le_of_ble_eq_true rfl), (Nat.le_of_ble_eq_true rfl)⟩ ⟨(Nat.le_of_ble_eq_true rfl), (Nat.le_of_ble_eq_true rfl)⟩ dX11_all_107 (st' := [.int q19]) (σ' := (sI σ 565 0 (0 : Int32))) rfl rfl ?_
      exact g_iret X hr hlk dX11_all_110 (by cases h; rfl)
    replace h := (if_neg c18).symm.trans h
    by_cases c20 : x1 = (9 : Int32)
    · replace h := (if_pos c20).symm.trans h
      refine g_tableIn (tgt := 111) (off := 94) X dX11_all_17 (by rw [c20]; decide) (by rw [c20]; decide) (by rw [c20]; rfl) (by decide) ?_
      refine g_aload_n X dX11_all_111 rfl 0 rfl ?_
      obtain ⟨q21, hq21, h⟩ := Option.bind_eq_some_iff.mp h
      refine g_cV X (c_Model_afraid  hq21) lk_RX11_525 my_X11_afraid (a := 565) (ci := 11) kd_565 (by decide) rfl (As := []) (rest := []) rfl rfl (Nat.le_of_ble_eq_true rfl) ⟨(Nat.le_of_ble_eq_true rfl), (Nat.le_of_ble_eq_true rfl)⟩ ⟨(Nat.le_of_ble_eq_true rfl), (Nat.le_of_ble_eq_true rfl)⟩ dX11_all_112 (st' := [.int q21]) (σ' := (sI σ 565 0 (0 : Int32))) rfl rfl ?_
      exact g_iret X hr hlk dX11_all_115 (by cases h; rfl)
    replace h := (if_neg c20).symm.trans h
    by_cases c22 : x1 = (10 : Int32)
    · replace h := (if_pos c22).symm.trans h
      refine g_tableIn (tgt := 116) (off := 99) X dX11_all_17 (by rw [c22]; decide) (by rw [c22]; decide) (by rw [c22]; rfl) (by decide) ?_
      refine g_aload_n X dX11_all_116 rfl 0 rfl ?_
      refine g_get X fl_RX11_61 dX11_all_117 kd_565 (v := .ref (be θ + 578)) rfl ?_
      obtain ⟨q23, hq23, h⟩ := Option.bind_eq_some_iff.mp h
      refine g_cS X (c_Model_allDue kd_578 hq23) lk_RX11_471 my_X11_allDue (As := [.ref (be θ + 578)]) (rest := []) rfl rfl (Nat.le_of_ble_eq_true rfl) ⟨(Nat.le_of_ble_eq_true rfl), (Nat.le_of_ble_eq_true rfl)⟩ ⟨(Nat.le_of_ble_eq_true rfl), (Nat.le_of_ble_eq_true rfl)⟩ dX11_all_120 (st' := [.int q23]) (σ' := (sI σ 565 0 (0 : Int32))) rfl rfl ?_
      exact g_iret X hr hlk dX11_all_123 (by cases h; rfl)
    replace h := (if_neg c22).symm.trans h
    by_cases c24 : x1 = (11 : Int32)
    · replace h := (if_pos c24).symm.trans h
      refine g_tableIn (tgt := 124) (off := 107) X dX11_all_17 (by rw [c24]; decide) (by rw [c24]; decide) (by rw [c24]; rfl) (by decide) ?_
      refine g_aload_n X dX11_all_124 rfl 0 rfl ?_
      refine g_get X fl_RX11_61 dX11_all_125 kd_565 (v := .ref (be θ + 578)) rfl ?_
      refine g_sipush X dX11_all_128 (v := (128 : Int32)) sp_128 ?_
      refine g_iald X kd_578 ln_578 (inb_in (show inb (128 : Int32) 312 = true by decide)) dX11_all_131 ?_
      exact g_iret X hr hlk dX11_all_132 (by cases h; rfl)
    replace h := (if_neg c24).symm.trans h
    by_cases c25 : x1 = (12 : Int32)
    · replace h := (if_pos c25).symm.trans h
      refine g_tableIn (tgt := 133) (off := 116) X dX11_all_17 (by rw [c25]; decide) (by rw [c25]; decide) (by rw [c25]; rfl) (by decide) ?_
      refine g_aload_n X dX11_all_133 rfl 0 rfl ?_
      refine g_bipush X dX11_all_134 (v := (6 : Int32)) bp_6 ?_
      obtain ⟨q26, hq26, h⟩ := Option.bind_eq_some_iff.mp h
      refine g_cV X (c_Model_greatest  hq26) lk_RX11_518 my_X11_greatest (a := 565) (ci := 11) kd_565 (by decide) rfl (As := [.int (6 : Int32)]) (rest := []) rfl rfl (Nat.le_of_ble_eq_true rfl) ⟨(Nat.le_of_ble_eq_true rfl), (Nat.le_of_ble_eq_true rfl)⟩ ⟨(Nat.le_of_ble_eq_true rfl), (Nat.le_of_ble_eq_true rfl)⟩ dX11_all_136 (st' := [.int q26.1]) (σ' := q26.2) rfl rfl ?_
      exact g_iret X hr hlk dX11_all_139 (by cases h; rfl)
    replace h := (if_neg c25).symm.trans h
    have nc2 := neT c2
    have nc4 := neT c4
    have nc6 := neT c6
    have nc8 := neT c8
    have nc10 := neT c10
    have nc12 := neT c12
    have nc14 := neT c14
    have nc16 := neT c16
    have nc18 := neT c18
    have nc20 := neT c20
    have nc22 := neT c22
    have nc24 := neT c24
    have nc25 := neT c25
    have w27 : x1.toInt < 0 ∨ 12 < x1.toInt := by
      rw [show (0 : Int32).toInt = 0 from rfl] at nc2
      rw [show (1 : Int32).toInt = 1 from rfl] at nc4
      rw [show (2 : Int32).toInt = 2 from rfl] at nc6
      rw [show (3 : Int32).toInt = 3 from rfl] at nc8
      rw [show (4 : Int32).toInt = 4 from rfl] at nc10
      rw [show (5 : Int32).toInt = 5 from rfl] at nc12
      rw [show (6 : Int32).toInt = 6 from rfl] at nc14
      rw [show (7 : Int32).toInt = 7 from rfl] at nc16
      rw [show (8 : Int32).toInt = 8 from rfl] at nc18
      rw [show (9 : Int32).toInt = 9 from rfl] at nc20
      rw [show (10 : Int32).toInt = 10 from rfl] at nc22
      rw [show (11 : Int32).toInt = 11 from rfl] at nc24
      rw [show (12 : Int32).toInt = 12 from rfl] at nc25
      omega
    refine g_tableOut (tgt := 140) X dX11_all_17 w27 (by decide) ?_
    refine g_ldcw X cst_RX11_411 dX11_all_140 ?_
    exact g_iret X hr hlk dX11_all_143 (by cases h; rfl)
  · replace h := (if_pos c1).symm.trans h
    refine g_ldcw X cst_RX11_411 dX11_all_12 ?_
    exact g_iret X hr hlk dX11_all_15 (by cases h; rfl)
set_option maxHeartbeats 4000000 in
set_option maxRecDepth 20000 in
theorem c_Model_all {θ : Th} {l : Launch} {σ : Mem} {x1 : Int32} {r : Int32 × Mem}  (h : f_Model_all σ x1 = some r) : Cn θ l yX11_all cX11_all 2 (some .int) 67 0 0 [.ref (be θ + 565), .int x1] σ (some (.int r.1), r.2) :=
  Cn.of (by decide) (Nat.le_of_ble_eq_true rfl) (fun p e s m below meth c X hr hlk => g_Model_all X hr hlk  h)
theorem dX11_image_0 : decode cX11_image 0 = .ok (.aload_n 0, 1) := by decide +kernel
theorem dX11_image_1 : decode cX11_image 1 = .ok (.iconst 0, 1) := by decide +kernel
theorem dX11_image_2 : decode cX11_image 2 = .ok (.putfield 112, 3) := by decide +kernel
theorem dX11_image_5 : decode cX11_image 5 = .ok (.aload_n 0, 1) := by decide +kernel
theorem dX11_image_6 : decode cX11_image 6 = .ok (.getfield 310, 3) := by decide +kernel
theorem dX11_image_9 : decode cX11_image 9 = .ok (.ifCond .ne 5, 3) := by decide +kernel
theorem dX11_image_12 : decode cX11_image 12 = .ok (.iconst (-1), 1) := by decide +kernel
theorem dX11_image_13 : decode cX11_image 13 = .ok (.ireturn, 1) := by decide +kernel
theorem dX11_image_14 : decode cX11_image 14 = .ok (.iconst 0, 1) := by decide +kernel
theorem dX11_image_15 : decode cX11_image 15 = .ok (.istore_n 1, 1) := by decide +kernel
theorem dX11_image_16 : decode cX11_image 16 = .ok (.iload_n 1, 1) := by decide +kernel
theorem dX11_image_17 : decode cX11_image 17 = .ok (.sipush 312, 3) := by decide +kernel
theorem dX11_image_20 : decode cX11_image 20 = .ok (.if_icmp .ge 21, 3) := by decide +kernel
theorem dX11_image_23 : decode cX11_image 23 = .ok (.aload_n 0, 1) := by decide +kernel
theorem dX11_image_24 : decode cX11_image 24 = .ok (.getfield 109, 3) := by decide +kernel
theorem dX11_image_27 : decode cX11_image 27 = .ok (.iload_n 1, 1) := by decide +kernel
theorem dX11_image_28 : decode cX11_image 28 = .ok (.aload_n 0, 1) := by decide +kernel
theorem dX11_image_29 : decode cX11_image 29 = .ok (.getfield 61, 3) := by decide +kernel
theorem dX11_image_32 : decode cX11_image 32 = .ok (.iload_n 1, 1) := by decide +kernel
theorem dX11_image_33 : decode cX11_image 33 = .ok (.iaload, 1) := by decide +kernel
theorem dX11_image_34 : decode cX11_image 34 = .ok (.iastore, 1) := by decide +kernel
theorem dX11_image_35 : decode cX11_image 35 = .ok (.iinc 1 1, 3) := by decide +kernel
theorem dX11_image_38 : decode cX11_image 38 = .ok (.goto (-22), 3) := by decide +kernel
theorem dX11_image_41 : decode cX11_image 41 = .ok (.aload_n 0, 1) := by decide +kernel
theorem dX11_image_42 : decode cX11_image 42 = .ok (.iconst 1, 1) := by decide +kernel
theorem dX11_image_43 : decode cX11_image 43 = .ok (.putfield 323, 3) := by decide +kernel
theorem dX11_image_46 : decode cX11_image 46 = .ok (.aload_n 0, 1) := by decide +kernel
theorem dX11_image_47 : decode cX11_image 47 = .ok (.getfield 61, 3) := by decide +kernel
theorem dX11_image_50 : decode cX11_image 50 = .ok (.sipush 130, 3) := by decide +kernel
theorem dX11_image_53 : decode cX11_image 53 = .ok (.iaload, 1) := by decide +kernel
theorem dX11_image_54 : decode cX11_image 54 = .ok (.ireturn, 1) := by decide +kernel
def f_Model_image_L16  (a : Mem × Int32) : Option ((Mem × Int32) ⊕ (Int32 × Mem)) :=
  @Prod.casesOn (Mem) (Int32) (fun _ => Option ((Mem × Int32) ⊕ (Int32 × Mem))) a fun τ z1 =>
  if (312 : Int32) ≤ z1 then
    some (.inr ((mI (sI τ 565 56 (1 : Int32)) 578 (130 : Int32).toNatClampNeg), (sI τ 565 56 (1 : Int32))))
  else
    if inb z1 312 then
      some (.inl ((sI τ 589 z1.toNatClampNeg (mI τ 578 z1.toNatClampNeg)), (z1 + (1 : Int32))))
    else none
def f_Model_image (σ : Mem)  : Option (Int32 × Mem) :=
  if (mI (sI σ 565 0 (0 : Int32)) 565 27) = (0 : Int32) then
    some ((-1 : Int32), (sI σ 565 0 (0 : Int32)))
  else
    loopF (f_Model_image_L16 ) FU ((sI σ 565 0 (0 : Int32)), (0 : Int32))
set_option maxHeartbeats 4000000 in
set_option maxRecDepth 20000 in
theorem gs_Model_image_L16 (X : Cx θ p s m args c cX11_image 2 RX11) (hr : meth.sig.returnType = some .int) (hlk : meth.locks = false)   {r : Int32 × Mem}  (τ : Mem) (z1 : Int32) (x : (Mem × Int32) ⊕ (Int32 × Mem)) (h : f_Model_image_L16  (τ, z1) = some x) (hk : Sum.elim (fun a => @Prod.casesOn (Mem) (Int32) (fun _ => Prop) a fun τ z1 => GB θ p l e 0 s m args below meth c 2 (some (.int r.1), r.2) 16 [(0, .ref (be θ + 565)), (1, .int z1)] [] τ) (fun b => b = r) x) : GB θ p l e 0 s m args below meth c 2 (some (.int r.1), r.2) 16 [(0, .ref (be θ + 565)), (1, .int z1)] [] τ := by
  unfold f_Model_image_L16 at h
  dsimp only at h
  refine g_iload_n X dX11_image_16 rfl 1 rfl ?_
  refine g_sipush X dX11_image_17 (v := (312 : Int32)) sp_312 ?_
  refine g_icmp_ge (tgt := 41) X dX11_image_20 (by decide) (fun c2 => ?_) (fun c2 => ?_)
  · replace h := (if_pos c2).symm.trans h
    refine g_aload_n X dX11_image_41 rfl 0 rfl ?_
    refine g_iconst X dX11_image_42 (v := (1 : Int32)) ic_1 ?_
    refine g_putZ X fl_RX11_323 dX11_image_43 kd_565 rfl rfl rfl bz1 ?_
    refine g_aload_n X dX11_image_46 rfl 0 rfl ?_
    refine g_get X fl_RX11_61 dX11_image_47 kd_565 (v := .ref (be θ + 578)) rfl ?_
    refine g_sipush X dX11_image_50 (v := (130 : Int32)) sp_130 ?_
    refine g_iald X kd_578 ln_578 (inb_in (show inb (130 : Int32) 312 = true by decide)) dX11_image_53 ?_
    have hk := inr_hk h hk
    have hk : ((mI (sI τ 565 56 (1 : Int32)) 578 (130 : Int32).toNatClampNeg), (sI τ 565 56 (1 : Int32))) = r := hk
    subst hk
    exact g_iret X hr hlk dX11_image_54 rfl
  · replace h := (if_neg c2).symm.trans h
    refine g_aload_n X dX11_image_23 rfl 0 rfl ?_
    refine g_get X fl_RX11_109 dX11_image_24 kd_565 (v := .ref (be θ + 589)) rfl ?_
    refine g_iload_n X dX11_image_27 rfl 1 rfl ?_
    refine g_aload_n X dX11_image_28 rfl 0 rfl ?_
    refine g_get X fl_RX11_61 dX11_image_29 kd_565 (v := .ref (be θ + 578)) rfl ?_
    refine g_iload_n X dX11_image_32 rfl 1 rfl ?_
    obtain ⟨g3, h⟩ := ite_some h
    refine g_iald X kd_578 ln_578 (inb_in g3) dX11_image_33 ?_
    refine g_iast X kd_589 ln_589 (inb_in g3) dX11_image_34 ?_
    refine g_iinc X dX11_image_35 (kq := 1) rfl (congrArg (HAdd.hAdd _) ic_1) (by decide) (lv' := [(1, .int (z1 + (1 : Int32))), (0, .ref (be θ + 565))]) rfl ?_
    refine g_goto (tgt := 16) X dX11_image_38 (by decide) ?_
    have hk := inl_hk h hk
    exact g_sub (lv' := [(0, .ref (be θ + 565)), (1, .int (z1 + (1 : Int32)))]) [1, 0] rfl hk
set_option maxHeartbeats 4000000 in
set_option maxRecDepth 20000 in
theorem gl_Model_image_L16 (X : Cx θ p s m args c cX11_image 2 RX11) (hr : meth.sig.returnType = some .int) (hlk : meth.locks = false)   {r : Int32 × Mem}  (n : Nat) (a : Mem × Int32) (b : Int32 × Mem) (h : loopF (f_Model_image_L16 ) n a = some b) (hk : (fun b => b = r) b) : (fun a => @Prod.casesOn (Mem) (Int32) (fun _ => Prop) a fun τ z1 => GB θ p l e 0 s m args below meth c 2 (some (.int r.1), r.2) 16 [(0, .ref (be θ + 565)), (1, .int z1)] [] τ) a :=
  loopF_by (P := (fun a => @Prod.casesOn (Mem) (Int32) (fun _ => Prop) a fun τ z1 => GB θ p l e 0 s m args below meth c 2 (some (.int r.1), r.2) 16 [(0, .ref (be θ + 565)), (1, .int z1)] [] τ)) (K := (fun b => b = r)) (fun a x h hk => by obtain ⟨τ, z1⟩ := a; exact gs_Model_image_L16 X hr hlk   τ z1 x h hk) n a b h hk
set_option maxHeartbeats 4000000 in
set_option maxRecDepth 20000 in
theorem g_Model_image (X : Cx θ p s m args c cX11_image 2 RX11) (hr : meth.sig.returnType = some .int) (hlk : meth.locks = false)  {σ : Mem}  {r : Int32 × Mem}  (h : f_Model_image σ  = some r) : GB θ p l e 0 s m args below meth c 2 (some (.int r.1), r.2) 0 [(0, .ref (be θ + 565))] [] σ := by
  unfold f_Model_image at h
  refine g_aload_n X dX11_image_0 rfl 0 rfl ?_
  refine g_iconst X dX11_image_1 (v := (0 : Int32)) ic_0 ?_
  refine g_putI X fl_RX11_112 dX11_image_2 kd_565 rfl rfl rfl ?_
  refine g_aload_n X dX11_image_5 rfl 0 rfl ?_
  refine g_get X fl_RX11_310 dX11_image_6 kd_565 (v := .int (mI (sI σ 565 0 (0 : Int32)) 565 27)) rfl ?_
  refine g_if_ne (tgt := 14) X dX11_image_9 (by decide) (fun c1 => ?_) (fun c1 => ?_)
  · replace h := (if_neg c1).symm.trans h
    refine g_iconst X dX11_image_14 (v := (0 : Int32)) ic_0 ?_
    refine g_istore_n X dX11_image_15 rfl (by decide) (lv' := [(1, .int (0 : Int32)), (0, .ref (be θ + 565))]) rfl ?_
    exact g_sub (lv' := [(0, .ref (be θ + 565)), (1, .int (0 : Int32))]) [1, 0] rfl (gl_Model_image_L16 X hr hlk    FU _ _ h rfl)
  · replace h := (if_pos c1).symm.trans h
    refine g_iconst X dX11_image_12 (v := (-1 : Int32)) ic_m1 ?_
    exact g_iret X hr hlk dX11_image_13 (by cases h; rfl)
set_option maxHeartbeats 4000000 in
set_option maxRecDepth 20000 in
theorem c_Model_image {θ : Th} {l : Launch} {σ : Mem}  {r : Int32 × Mem}  (h : f_Model_image σ  = some r) : Cn θ l yX11_image cX11_image 2 (some .int) 0 0 0 [.ref (be θ + 565)] σ (some (.int r.1), r.2) :=
  Cn.of (by decide) (Nat.le_of_ble_eq_true rfl) (fun p e s m below meth c X hr hlk => g_Model_image X hr hlk  h)
theorem dX11_back_0 : decode cX11_back 0 = .ok (.aload_n 0, 1) := by decide +kernel
theorem dX11_back_1 : decode cX11_back 1 = .ok (.iconst 0, 1) := by decide +kernel
theorem dX11_back_2 : decode cX11_back 2 = .ok (.putfield 112, 3) := by decide +kernel
theorem dX11_back_5 : decode cX11_back 5 = .ok (.aload_n 0, 1) := by decide +kernel
theorem dX11_back_6 : decode cX11_back 6 = .ok (.getfield 323, 3) := by decide +kernel
theorem dX11_back_9 : decode cX11_back 9 = .ok (.ifCond .ne 5, 3) := by decide +kernel
theorem dX11_back_12 : decode cX11_back 12 = .ok (.iconst (-1), 1) := by decide +kernel
theorem dX11_back_13 : decode cX11_back 13 = .ok (.ireturn, 1) := by decide +kernel
theorem dX11_back_14 : decode cX11_back 14 = .ok (.iconst 0, 1) := by decide +kernel
theorem dX11_back_15 : decode cX11_back 15 = .ok (.istore_n 1, 1) := by decide +kernel
theorem dX11_back_16 : decode cX11_back 16 = .ok (.iload_n 1, 1) := by decide +kernel
theorem dX11_back_17 : decode cX11_back 17 = .ok (.sipush 312, 3) := by decide +kernel
theorem dX11_back_20 : decode cX11_back 20 = .ok (.if_icmp .ge 21, 3) := by decide +kernel
theorem dX11_back_23 : decode cX11_back 23 = .ok (.aload_n 0, 1) := by decide +kernel
theorem dX11_back_24 : decode cX11_back 24 = .ok (.getfield 61, 3) := by decide +kernel
theorem dX11_back_27 : decode cX11_back 27 = .ok (.iload_n 1, 1) := by decide +kernel
theorem dX11_back_28 : decode cX11_back 28 = .ok (.aload_n 0, 1) := by decide +kernel
theorem dX11_back_29 : decode cX11_back 29 = .ok (.getfield 109, 3) := by decide +kernel
theorem dX11_back_32 : decode cX11_back 32 = .ok (.iload_n 1, 1) := by decide +kernel
theorem dX11_back_33 : decode cX11_back 33 = .ok (.iaload, 1) := by decide +kernel
theorem dX11_back_34 : decode cX11_back 34 = .ok (.iastore, 1) := by decide +kernel
theorem dX11_back_35 : decode cX11_back 35 = .ok (.iinc 1 1, 3) := by decide +kernel
theorem dX11_back_38 : decode cX11_back 38 = .ok (.goto (-22), 3) := by decide +kernel
theorem dX11_back_41 : decode cX11_back 41 = .ok (.aload_n 0, 1) := by decide +kernel
theorem dX11_back_42 : decode cX11_back 42 = .ok (.iconst 0, 1) := by decide +kernel
theorem dX11_back_43 : decode cX11_back 43 = .ok (.putfield 320, 3) := by decide +kernel
theorem dX11_back_46 : decode cX11_back 46 = .ok (.aload_n 0, 1) := by decide +kernel
theorem dX11_back_47 : decode cX11_back 47 = .ok (.getfield 61, 3) := by decide +kernel
theorem dX11_back_50 : decode cX11_back 50 = .ok (.sipush 130, 3) := by decide +kernel
theorem dX11_back_53 : decode cX11_back 53 = .ok (.iaload, 1) := by decide +kernel
theorem dX11_back_54 : decode cX11_back 54 = .ok (.ireturn, 1) := by decide +kernel
def f_Model_back_L16  (a : Mem × Int32) : Option ((Mem × Int32) ⊕ (Int32 × Mem)) :=
  @Prod.casesOn (Mem) (Int32) (fun _ => Option ((Mem × Int32) ⊕ (Int32 × Mem))) a fun τ z1 =>
  if (312 : Int32) ≤ z1 then
    some (.inr ((mI (sI τ 565 44 (0 : Int32)) 578 (130 : Int32).toNatClampNeg), (sI τ 565 44 (0 : Int32))))
  else
    if inb z1 312 then
      some (.inl ((sI τ 578 z1.toNatClampNeg (mI τ 589 z1.toNatClampNeg)), (z1 + (1 : Int32))))
    else none
def f_Model_back (σ : Mem)  : Option (Int32 × Mem) :=
  if (mI (sI σ 565 0 (0 : Int32)) 565 56) = (0 : Int32) then
    some ((-1 : Int32), (sI σ 565 0 (0 : Int32)))
  else
    loopF (f_Model_back_L16 ) FU ((sI σ 565 0 (0 : Int32)), (0 : Int32))
set_option maxHeartbeats 4000000 in
set_option maxRecDepth 20000 in
theorem gs_Model_back_L16 (X : Cx θ p s m args c cX11_back 2 RX11) (hr : meth.sig.returnType = some .int) (hlk : meth.locks = false)   {r : Int32 × Mem}  (τ : Mem) (z1 : Int32) (x : (Mem × Int32) ⊕ (Int32 × Mem)) (h : f_Model_back_L16  (τ, z1) = some x) (hk : Sum.elim (fun a => @Prod.casesOn (Mem) (Int32) (fun _ => Prop) a fun τ z1 => GB θ p l e 0 s m args below meth c 2 (some (.int r.1), r.2) 16 [(0, .ref (be θ + 565)), (1, .int z1)] [] τ) (fun b => b = r) x) : GB θ p l e 0 s m args below meth c 2 (some (.int r.1), r.2) 16 [(0, .ref (be θ + 565)), (1, .int z1)] [] τ := by
  unfold f_Model_back_L16 at h
  dsimp only at h
  refine g_iload_n X dX11_back_16 rfl 1 rfl ?_
  refine g_sipush X dX11_back_17 (v := (312 : Int32)) sp_312 ?_
  refine g_icmp_ge (tgt := 41) X dX11_back_20 (by decide) (fun c2 => ?_) (fun c2 => ?_)
  · replace h := (if_pos c2).symm.trans h
    refine g_aload_n X dX11_back_41 rfl 0 rfl ?_
    refine g_iconst X dX11_back_42 (v := (0 : Int32)) ic_0 ?_
    refine g_putI X fl_RX11_320 dX11_back_43 kd_565 rfl rfl rfl ?_
    refine g_aload_n X dX11_back_46 rfl 0 rfl ?_
    refine g_get X fl_RX11_61 dX11_back_47 kd_565 (v := .ref (be θ + 578)) rfl ?_
    refine g_sipush X dX11_back_50 (v := (130 : Int32)) sp_130 ?_
    refine g_iald X kd_578 ln_578 (inb_in (show inb (130 : Int32) 312 = true by decide)) dX11_back_53 ?_
    have hk := inr_hk h hk
    have hk : ((mI (sI τ 565 44 (0 : Int32)) 578 (130 : Int32).toNatClampNeg), (sI τ 565 44 (0 : Int32))) = r := hk
    subst hk
    exact g_iret X hr hlk dX11_back_54 rfl
  · replace h := (if_neg c2).symm.trans h
    refine g_aload_n X dX11_back_23 rfl 0 rfl ?_
    refine g_get X fl_RX11_61 dX11_back_24 kd_565 (v := .ref (be θ + 578)) rfl ?_
    refine g_iload_n X dX11_back_27 rfl 1 rfl ?_
    refine g_aload_n X dX11_back_28 rfl 0 rfl ?_
    refine g_get X fl_RX11_109 dX11_back_29 kd_565 (v := .ref (be θ + 589)) rfl ?_
    refine g_iload_n X dX11_back_32 rfl 1 rfl ?_
    obtain ⟨g3, h⟩ := ite_some h
    refine g_iald X kd_589 ln_589 (inb_in g3) dX11_back_33 ?_
    refine g_iast X kd_578 ln_578 (inb_in g3) dX11_back_34 ?_
    refine g_iinc X dX11_back_35 (kq := 1) rfl (congrArg (HAdd.hAdd _) ic_1) (by decide) (lv' := [(1, .int (z1 + (1 : Int32))), (0, .ref (be θ + 565))]) rfl ?_
    refine g_goto (tgt := 16) X dX11_back_38 (by decide) ?_
    have hk := inl_hk h hk
    exact g_sub (lv' := [(0, .ref (be θ + 565)), (1, .int (z1 + (1 : Int32)))]) [1, 0] rfl hk
set_option maxHeartbeats 4000000 in
set_option maxRecDepth 20000 in
theorem gl_Model_back_L16 (X : Cx θ p s m args c cX11_back 2 RX11) (hr : meth.sig.returnType = some .int) (hlk : meth.locks = false)   {r : Int32 × Mem}  (n : Nat) (a : Mem × Int32) (b : Int32 × Mem) (h : loopF (f_Model_back_L16 ) n a = some b) (hk : (fun b => b = r) b) : (fun a => @Prod.casesOn (Mem) (Int32) (fun _ => Prop) a fun τ z1 => GB θ p l e 0 s m args below meth c 2 (some (.int r.1), r.2) 16 [(0, .ref (be θ + 565)), (1, .int z1)] [] τ) a :=
  loopF_by (P := (fun a => @Prod.casesOn (Mem) (Int32) (fun _ => Prop) a fun τ z1 => GB θ p l e 0 s m args below meth c 2 (some (.int r.1), r.2) 16 [(0, .ref (be θ + 565)), (1, .int z1)] [] τ)) (K := (fun b => b = r)) (fun a x h hk => by obtain ⟨τ, z1⟩ := a; exact gs_Model_back_L16 X hr hlk   τ z1 x h hk) n a b h hk
set_option maxHeartbeats 4000000 in
set_option maxRecDepth 20000 in
theorem g_Model_back (X : Cx θ p s m args c cX11_back 2 RX11) (hr : meth.sig.returnType = some .int) (hlk : meth.locks = false)  {σ : Mem}  {r : Int32 × Mem}  (h : f_Model_back σ  = some r) : GB θ p l e 0 s m args below meth c 2 (some (.int r.1), r.2) 0 [(0, .ref (be θ + 565))] [] σ := by
  unfold f_Model_back at h
  refine g_aload_n X dX11_back_0 rfl 0 rfl ?_
  refine g_iconst X dX11_back_1 (v := (0 : Int32)) ic_0 ?_
  refine g_putI X fl_RX11_112 dX11_back_2 kd_565 rfl rfl rfl ?_
  refine g_aload_n X dX11_back_5 rfl 0 rfl ?_
  refine g_get X fl_RX11_323 dX11_back_6 kd_565 (v := .int (mI (sI σ 565 0 (0 : Int32)) 565 56)) rfl ?_
  refine g_if_ne (tgt := 14) X dX11_back_9 (by decide) (fun c1 => ?_) (fun c1 => ?_)
  · replace h := (if_neg c1).symm.trans h
    refine g_iconst X dX11_back_14 (v := (0 : Int32)) ic_0 ?_
    refine g_istore_n X dX11_back_15 rfl (by decide) (lv' := [(1, .int (0 : Int32)), (0, .ref (be θ + 565))]) rfl ?_
    exact g_sub (lv' := [(0, .ref (be θ + 565)), (1, .int (0 : Int32))]) [1, 0] rfl (gl_Model_back_L16 X hr hlk    FU _ _ h rfl)
  · replace h := (if_pos c1).symm.trans h
    refine g_iconst X dX11_back_12 (v := (-1 : Int32)) ic_m1 ?_
    exact g_iret X hr hlk dX11_back_13 (by cases h; rfl)
set_option maxHeartbeats 4000000 in
set_option maxRecDepth 20000 in
theorem c_Model_back {θ : Th} {l : Launch} {σ : Mem}  {r : Int32 × Mem}  (h : f_Model_back σ  = some r) : Cn θ l yX11_back cX11_back 2 (some .int) 0 0 0 [.ref (be θ + 565)] σ (some (.int r.1), r.2) :=
  Cn.of (by decide) (Nat.le_of_ble_eq_true rfl) (fun p e s m below meth c X hr hlk => g_Model_back X hr hlk  h)
theorem dX11_count_0 : decode cX11_count 0 = .ok (.aload_n 0, 1) := by decide +kernel
theorem dX11_count_1 : decode cX11_count 1 = .ok (.iconst 0, 1) := by decide +kernel
theorem dX11_count_2 : decode cX11_count 2 = .ok (.putfield 112, 3) := by decide +kernel
theorem dX11_count_5 : decode cX11_count 5 = .ok (.iload_n 1, 1) := by decide +kernel
theorem dX11_count_6 : decode cX11_count 6 = .ok (.tableswitch 158 0 13 #[70, 75, 80, 85, 90, 95, 100, 109, 117, 126, 134, 139, 144, 153], 70) := by decide +kernel
theorem dX11_count_76 : decode cX11_count 76 = .ok (.aload_n 0, 1) := by decide +kernel
theorem dX11_count_77 : decode cX11_count 77 = .ok (.getfield 307, 3) := by decide +kernel
theorem dX11_count_80 : decode cX11_count 80 = .ok (.ireturn, 1) := by decide +kernel
theorem dX11_count_81 : decode cX11_count 81 = .ok (.aload_n 0, 1) := by decide +kernel
theorem dX11_count_82 : decode cX11_count 82 = .ok (.getfield 310, 3) := by decide +kernel
theorem dX11_count_85 : decode cX11_count 85 = .ok (.ireturn, 1) := by decide +kernel
theorem dX11_count_86 : decode cX11_count 86 = .ok (.aload_n 0, 1) := by decide +kernel
theorem dX11_count_87 : decode cX11_count 87 = .ok (.getfield 299, 3) := by decide +kernel
theorem dX11_count_90 : decode cX11_count 90 = .ok (.ireturn, 1) := by decide +kernel
theorem dX11_count_91 : decode cX11_count 91 = .ok (.aload_n 0, 1) := by decide +kernel
theorem dX11_count_92 : decode cX11_count 92 = .ok (.getfield 302, 3) := by decide +kernel
theorem dX11_count_95 : decode cX11_count 95 = .ok (.ireturn, 1) := by decide +kernel
theorem dX11_count_96 : decode cX11_count 96 = .ok (.aload_n 0, 1) := by decide +kernel
theorem dX11_count_97 : decode cX11_count 97 = .ok (.getfield 125, 3) := by decide +kernel
theorem dX11_count_100 : decode cX11_count 100 = .ok (.ireturn, 1) := by decide +kernel
theorem dX11_count_101 : decode cX11_count 101 = .ok (.aload_n 0, 1) := by decide +kernel
theorem dX11_count_102 : decode cX11_count 102 = .ok (.getfield 70, 3) := by decide +kernel
theorem dX11_count_105 : decode cX11_count 105 = .ok (.ireturn, 1) := by decide +kernel
theorem dX11_count_106 : decode cX11_count 106 = .ok (.aload_n 0, 1) := by decide +kernel
theorem dX11_count_107 : decode cX11_count 107 = .ok (.getfield 61, 3) := by decide +kernel
theorem dX11_count_110 : decode cX11_count 110 = .ok (.sipush 130, 3) := by decide +kernel
theorem dX11_count_113 : decode cX11_count 113 = .ok (.iaload, 1) := by decide +kernel
theorem dX11_count_114 : decode cX11_count 114 = .ok (.ireturn, 1) := by decide +kernel
theorem dX11_count_115 : decode cX11_count 115 = .ok (.aload_n 0, 1) := by decide +kernel
theorem dX11_count_116 : decode cX11_count 116 = .ok (.getfield 61, 3) := by decide +kernel
theorem dX11_count_119 : decode cX11_count 119 = .ok (.bipush 127, 2) := by decide +kernel
theorem dX11_count_121 : decode cX11_count 121 = .ok (.iaload, 1) := by decide +kernel
theorem dX11_count_122 : decode cX11_count 122 = .ok (.ireturn, 1) := by decide +kernel
theorem dX11_count_123 : decode cX11_count 123 = .ok (.aload_n 0, 1) := by decide +kernel
theorem dX11_count_124 : decode cX11_count 124 = .ok (.getfield 61, 3) := by decide +kernel
theorem dX11_count_127 : decode cX11_count 127 = .ok (.sipush 129, 3) := by decide +kernel
theorem dX11_count_130 : decode cX11_count 130 = .ok (.iaload, 1) := by decide +kernel
theorem dX11_count_131 : decode cX11_count 131 = .ok (.ireturn, 1) := by decide +kernel
theorem dX11_count_132 : decode cX11_count 132 = .ok (.aload_n 0, 1) := by decide +kernel
theorem dX11_count_133 : decode cX11_count 133 = .ok (.getfield 61, 3) := by decide +kernel
theorem dX11_count_136 : decode cX11_count 136 = .ok (.bipush 126, 2) := by decide +kernel
theorem dX11_count_138 : decode cX11_count 138 = .ok (.iaload, 1) := by decide +kernel
theorem dX11_count_139 : decode cX11_count 139 = .ok (.ireturn, 1) := by decide +kernel
theorem dX11_count_140 : decode cX11_count 140 = .ok (.aload_n 0, 1) := by decide +kernel
theorem dX11_count_141 : decode cX11_count 141 = .ok (.getfield 74, 3) := by decide +kernel
theorem dX11_count_144 : decode cX11_count 144 = .ok (.ireturn, 1) := by decide +kernel
theorem dX11_count_145 : decode cX11_count 145 = .ok (.aload_n 0, 1) := by decide +kernel
theorem dX11_count_146 : decode cX11_count 146 = .ok (.getfield 317, 3) := by decide +kernel
theorem dX11_count_149 : decode cX11_count 149 = .ok (.ireturn, 1) := by decide +kernel
theorem dX11_count_150 : decode cX11_count 150 = .ok (.aload_n 0, 1) := by decide +kernel
theorem dX11_count_151 : decode cX11_count 151 = .ok (.getfield 61, 3) := by decide +kernel
theorem dX11_count_154 : decode cX11_count 154 = .ok (.sipush 131, 3) := by decide +kernel
theorem dX11_count_157 : decode cX11_count 157 = .ok (.iaload, 1) := by decide +kernel
theorem dX11_count_158 : decode cX11_count 158 = .ok (.ireturn, 1) := by decide +kernel
theorem dX11_count_159 : decode cX11_count 159 = .ok (.aload_n 0, 1) := by decide +kernel
theorem dX11_count_160 : decode cX11_count 160 = .ok (.getfield 320, 3) := by decide +kernel
theorem dX11_count_163 : decode cX11_count 163 = .ok (.ireturn, 1) := by decide +kernel
theorem dX11_count_164 : decode cX11_count 164 = .ok (.ldc_w 411, 3) := by decide +kernel
theorem dX11_count_167 : decode cX11_count 167 = .ok (.ireturn, 1) := by decide +kernel
def f_Model_count (σ : Mem) (x1 : Int32) : Option (Int32 × Mem) :=
  if x1 = (0 : Int32) then
    some ((mI (sI σ 565 0 (0 : Int32)) 565 26), (sI σ 565 0 (0 : Int32)))
  else
  if x1 = (1 : Int32) then
    some ((mI (sI σ 565 0 (0 : Int32)) 565 27), (sI σ 565 0 (0 : Int32)))
  else
  if x1 = (2 : Int32) then
    some ((mI (sI σ 565 0 (0 : Int32)) 565 7), (sI σ 565 0 (0 : Int32)))
  else
  if x1 = (3 : Int32) then
    some ((mI (sI σ 565 0 (0 : Int32)) 565 30), (sI σ 565 0 (0 : Int32)))
  else
  if x1 = (4 : Int32) then
    some ((mI (sI σ 565 0 (0 : Int32)) 565 6), (sI σ 565 0 (0 : Int32)))
  else
  if x1 = (5 : Int32) then
    some ((mI (sI σ 565 0 (0 : Int32)) 565 35), (sI σ 565 0 (0 : Int32)))
  else
  if x1 = (6 : Int32) then
    some ((mI (sI σ 565 0 (0 : Int32)) 578 (130 : Int32).toNatClampNeg), (sI σ 565 0 (0 : Int32)))
  else
  if x1 = (7 : Int32) then
    some ((mI (sI σ 565 0 (0 : Int32)) 578 (127 : Int32).toNatClampNeg), (sI σ 565 0 (0 : Int32)))
  else
  if x1 = (8 : Int32) then
    some ((mI (sI σ 565 0 (0 : Int32)) 578 (129 : Int32).toNatClampNeg), (sI σ 565 0 (0 : Int32)))
  else
  if x1 = (9 : Int32) then
    some ((mI (sI σ 565 0 (0 : Int32)) 578 (126 : Int32).toNatClampNeg), (sI σ 565 0 (0 : Int32)))
  else
  if x1 = (10 : Int32) then
    some ((mI (sI σ 565 0 (0 : Int32)) 565 36), (sI σ 565 0 (0 : Int32)))
  else
  if x1 = (11 : Int32) then
    some ((mI (sI σ 565 0 (0 : Int32)) 565 51), (sI σ 565 0 (0 : Int32)))
  else
  if x1 = (12 : Int32) then
    some ((mI (sI σ 565 0 (0 : Int32)) 578 (131 : Int32).toNatClampNeg), (sI σ 565 0 (0 : Int32)))
  else
  if x1 = (13 : Int32) then
    some ((mI (sI σ 565 0 (0 : Int32)) 565 44), (sI σ 565 0 (0 : Int32)))
  else
  some ((-1000000 : Int32), (sI σ 565 0 (0 : Int32)))
set_option maxHeartbeats 4000000 in
set_option maxRecDepth 20000 in
theorem g_Model_count (X : Cx θ p s m args c cX11_count 2 RX11) (hr : meth.sig.returnType = some .int) (hlk : meth.locks = false)  {σ : Mem} {x1 : Int32} {r : Int32 × Mem}  (h : f_Model_count σ x1 = some r) : GB θ p l e 0 s m args below meth c 2 (some (.int r.1), r.2) 0 [(0, .ref (be θ + 565)), (1, .int x1)] [] σ := by
  unfold f_Model_count at h
  refine g_aload_n X dX11_count_0 rfl 0 rfl ?_
  refine g_iconst X dX11_count_1 (v := (0 : Int32)) ic_0 ?_
  refine g_putI X fl_RX11_112 dX11_count_2 kd_565 rfl rfl rfl ?_
  refine g_iload_n X dX11_count_5 rfl 1 rfl ?_
  by_cases c1 : x1 = (0 : Int32)
  · replace h := (if_pos c1).symm.trans h
    refine g_tableIn (tgt := 76) (off := 70) X dX11_count_6 (by rw [c1]; decide) (by rw [c1]; decide) (by rw [c1]; rfl) (by decide) ?_
    refine g_aload_n X dX11_count_76 rfl 0 rfl ?_
    refine g_get X fl_RX11_307 dX11_count_77 kd_565 (v := .int (mI (sI σ 565 0 (0 : Int32)) 565 26)) rfl ?_
    exact g_iret X hr hlk dX11_count_80 (by cases h; rfl)
  replace h := (if_neg c1).symm.trans h
  by_cases c2 : x1 = (1 : Int32)
  · replace h := (if_pos c2).symm.trans h
    refine g_tableIn (tgt := 81) (off := 75) X dX11_count_6 (by rw [c2]; decide) (by rw [c2]; decide) (by rw [c2]; rfl) (by decide) ?_
    refine g_aload_n X dX11_count_81 rfl 0 rfl ?_
    refine g_get X fl_RX11_310 dX11_count_82 kd_565 (v := .int (mI (sI σ 565 0 (0 : Int32)) 565 27)) rfl ?_
    exact g_iret X hr hlk dX11_count_85 (by cases h; rfl)
  replace h := (if_neg c2).symm.trans h
  by_cases c3 : x1 = (2 : Int32)
  · replace h := (if_pos c3).symm.trans h
    refine g_tableIn (tgt := 86) (off := 80) X dX11_count_6 (by rw [c3]; decide) (by rw [c3]; decide) (by rw [c3]; rfl) (by decide) ?_
    refine g_aload_n X dX11_count_86 rfl 0 rfl ?_
    refine g_get X fl_RX11_299 dX11_count_87 kd_565 (v := .int (mI (sI σ 565 0 (0 : Int32)) 565 7)) rfl ?_
    exact g_iret X hr hlk dX11_count_90 (by cases h; rfl)
  replace h := (if_neg c3).symm.trans h
  by_cases c4 : x1 = (3 : Int32)
  · replace h := (if_pos c4).symm.trans h
    refine g_tableIn (tgt := 91) (off := 85) X dX11_count_6 (by rw [c4]; decide) (by rw [c4]; decide) (by rw [c4]; rfl) (by decide) ?_
    refine g_aload_n X dX11_count_91 rfl 0 rfl ?_
    refine g_get X fl_RX11_302 dX11_count_92 kd_565 (v := .int (mI (sI σ 565 0 (0 : Int32)) 565 30)) rfl ?_
    exact g_iret X hr hlk dX11_count_95 (by cases h; rfl)
  replace h := (if_neg c4).symm.trans h
  by_cases c5 : x1 = (4 : Int32)
  · replace h := (if_pos c5).symm.trans h
    refine g_tableIn (tgt := 96) (off := 90) X dX11_count_6 (by rw [c5]; decide) (by rw [c5]; decide) (by rw [c5]; rfl) (by decide) ?_
    refine g_aload_n X dX11_count_96 rfl 0 rfl ?_
    refine g_get X fl_RX11_125 dX11_count_97 kd_565 (v := .int (mI (sI σ 565 0 (0 : Int32)) 565 6)) rfl ?_
    exact g_iret X hr hlk dX11_count_100 (by cases h; rfl)
  replace h := (if_neg c5).symm.trans h
  by_cases c6 : x1 = (5 : Int32)
  · replace h := (if_pos c6).symm.trans h
    refine g_tableIn (tgt := 101) (off := 95) X dX11_count_6 (by rw [c6]; decide) (by rw [c6]; decide) (by rw [c6]; rfl) (by decide) ?_
    refine g_aload_n X dX11_count_101 rfl 0 rfl ?_
    refine g_get X fl_RX11_70 dX11_count_102 kd_565 (v := .int (mI (sI σ 565 0 (0 : Int32)) 565 35)) rfl ?_
    exact g_iret X hr hlk dX11_count_105 (by cases h; rfl)
  replace h := (if_neg c6).symm.trans h
  by_cases c7 : x1 = (6 : Int32)
  · replace h := (if_pos c7).symm.trans h
    refine g_tableIn (tgt := 106) (off := 100) X dX11_count_6 (by rw [c7]; decide) (by rw [c7]; decide) (by rw [c7]; rfl) (by decide) ?_
    refine g_aload_n X dX11_count_106 rfl 0 rfl ?_
    refine g_get X fl_RX11_61 dX11_count_107 kd_565 (v := .ref (be θ + 578)) rfl ?_
    refine g_sipush X dX11_count_110 (v := (130 : Int32)) sp_130 ?_
    refine g_iald X kd_578 ln_578 (inb_in (show inb (130 : Int32) 312 = true by decide)) dX11_count_113 ?_
    exact g_iret X hr hlk dX11_count_114 (by cases h; rfl)
  replace h := (if_neg c7).symm.trans h
  by_cases c8 : x1 = (7 : Int32)
  · replace h := (if_pos c8).symm.trans h
    refine g_tableIn (tgt := 115) (off := 109) X dX11_count_6 (by rw [c8]; decide) (by rw [c8]; decide) (by rw [c8]; rfl) (by decide) ?_
    refine g_aload_n X dX11_count_115 rfl 0 rfl ?_
    refine g_get X fl_RX11_61 dX11_count_116 kd_565 (v := .ref (be θ + 578)) rfl ?_
    refine g_bipush X dX11_count_119 (v := (127 : Int32)) bp_127 ?_
    refine g_iald X kd_578 ln_578 (inb_in (show inb (127 : Int32) 312 = true by decide)) dX11_count_121 ?_
    exact g_iret X hr hlk dX11_count_122 (by cases h; rfl)
  replace h := (if_neg c8).symm.trans h
  by_cases c9 : x1 = (8 : Int32)
  · replace h := (if_pos c9).symm.trans h
    refine g_tableIn (tgt := 123) (off := 117) X dX11_count_6 (by rw [c9]; decide) (by rw [c9]; decide) (by rw [c9]; rfl) (by decide) ?_
    refine g_aload_n X dX11_count_123 rfl 0 rfl ?_
    refine g_get X fl_RX11_61 dX11_count_124 kd_565 (v := .ref (be θ + 578)) rfl ?_
    refine g_sipush X dX11_count_127 (v := (129 : Int32)) sp_129 ?_
    refine g_iald X kd_578 ln_578 (inb_in (show inb (129 : Int32) 312 = true by decide)) dX11_count_130 ?_
    exact g_iret X hr hlk dX11_count_131 (by cases h; rfl)
  replace h := (if_neg c9).symm.trans h
  by_cases c10 : x1 = (9 : Int32)
  · replace h := (if_pos c10).symm.trans h
    refine g_tableIn (tgt := 132) (off := 126) X dX11_count_6 (by rw [c10]; decide) (by rw [c10]; decide) (by rw [c10]; rfl) (by decide) ?_
    refine g_aload_n X dX11_count_132 rfl 0 rfl ?_
    refine g_get X fl_RX11_61 dX11_count_133 kd_565 (v := .ref (be θ + 578)) rfl ?_
    refine g_bipush X dX11_count_136 (v := (126 : Int32)) bp_126 ?_
    refine g_iald X kd_578 ln_578 (inb_in (show inb (126 : Int32) 312 = true by decide)) dX11_count_138 ?_
    exact g_iret X hr hlk dX11_count_139 (by cases h; rfl)
  replace h := (if_neg c10).symm.trans h
  by_cases c11 : x1 = (10 : Int32)
  · replace h := (if_pos c11).symm.trans h
    refine g_tableIn (tgt := 140) (off := 134) X dX11_count_6 (by rw [c11]; decide) (by rw [c11]; decide) (by rw [c11]; rfl) (by decide) ?_
    refine g_aload_n X dX11_count_140 rfl 0 rfl ?_
    refine g_get X fl_RX11_74 dX11_count_141 kd_565 (v := .int (mI (sI σ 565 0 (0 : Int32)) 565 36)) rfl ?_
    exact g_iret X hr hlk dX11_count_144 (by cases h; rfl)
  replace h := (if_neg c11).symm.trans h
  by_cases c12 : x1 = (11 : Int32)
  · replace h := (if_pos c12).symm.trans h
    refine g_tableIn (tgt := 145) (off := 139) X dX11_count_6 (by rw [c12]; decide) (by rw [c12]; decide) (by rw [c12]; rfl) (by decide) ?_
    refine g_aload_n X dX11_count_145 rfl 0 rfl ?_
    refine g_get X fl_RX11_317 dX11_count_146 kd_565 (v := .int (mI (sI σ 565 0 (0 : Int32)) 565 51)) rfl ?_
    exact g_iret X hr hlk dX11_count_149 (by cases h; rfl)
  replace h := (if_neg c12).symm.trans h
  by_cases c13 : x1 = (12 : Int32)
  · replace h := (if_pos c13).symm.trans h
    refine g_tableIn (tgt := 150) (off := 144) X dX11_count_6 (by rw [c13]; decide) (by rw [c13]; decide) (by rw [c13]; rfl) (by decide) ?_
    refine g_aload_n X dX11_count_150 rfl 0 rfl ?_
    refine g_get X fl_RX11_61 dX11_count_151 kd_565 (v := .ref (be θ + 578)) rfl ?_
    refine g_sipush X dX11_count_154 (v := (131 : Int32)) sp_131 ?_
    refine g_iald X kd_578 ln_578 (inb_in (show inb (131 : Int32) 312 = true by decide)) dX11_count_157 ?_
    exact g_iret X hr hlk dX11_count_158 (by cases h; rfl)
  replace h := (if_neg c13).symm.trans h
  by_cases c14 : x1 = (13 : Int32)
  · replace h := (if_pos c14).symm.trans h
    refine g_tableIn (tgt := 159) (off := 153) X dX11_count_6 (by rw [c14]; decide) (by rw [c14]; decide) (by rw [c14]; rfl) (by decide) ?_
    refine g_aload_n X dX11_count_159 rfl 0 rfl ?_
    refine g_get X fl_RX11_320 dX11_count_160 kd_565 (v := .int (mI (sI σ 565 0 (0 : Int32)) 565 44)) rfl ?_
    exact g_iret X hr hlk dX11_count_163 (by cases h; rfl)
  replace h := (if_neg c14).symm.trans h
  have nc1 := neT c1
  have nc2 := neT c2
  have nc3 := neT c3
  have nc4 := neT c4
  have nc5 := neT c5
  have nc6 := neT c6
  have nc7 := neT c7
  have nc8 := neT c8
  have nc9 := neT c9
  have nc10 := neT c10
  have nc11 := neT c11
  have nc12 := neT c12
  have nc13 := neT c13
  have nc14 := neT c14
  have w15 : x1.toInt < 0 ∨ 13 < x1.toInt := by
    rw [show (0 : Int32).toInt = 0 from rfl] at nc1
    rw [show (1 : Int32).toInt = 1 from rfl] at nc2
    rw [show (2 : Int32).toInt = 2 from rfl] at nc3
    rw [show (3 : Int32).toInt = 3 from rfl] at nc4
    rw [show (4 : Int32).toInt = 4 from rfl] at nc5
    rw [show (5 : Int32).toInt = 5 from rfl] at nc6
    rw [show (6 : Int32).toInt = 6 from rfl] at nc7
    rw [show (7 : Int32).toInt = 7 from rfl] at nc8
    rw [show (8 : Int32).toInt = 8 from rfl] at nc9
    rw [show (9 : Int32).toInt = 9 from rfl] at nc10
    rw [show (10 : Int32).toInt = 10 from rfl] at nc11
    rw [show (11 : Int32).toInt = 11 from rfl] at nc12
    rw [show (12 : Int32).toInt = 12 from rfl] at nc13
    rw [show (13 : Int32).toInt = 13 from rfl] at nc14
    omega
  refine g_tableOut (tgt := 164) X dX11_count_6 w15 (by decide) ?_
  refine g_ldcw X cst_RX11_411 dX11_count_164 ?_
  exact g_iret X hr hlk dX11_count_167 (by cases h; rfl)
set_option maxHeartbeats 4000000 in
set_option maxRecDepth 20000 in
theorem c_Model_count {θ : Th} {l : Launch} {σ : Mem} {x1 : Int32} {r : Int32 × Mem}  (h : f_Model_count σ x1 = some r) : Cn θ l yX11_count cX11_count 2 (some .int) 0 0 0 [.ref (be θ + 565), .int x1] σ (some (.int r.1), r.2) :=
  Cn.of (by decide) (Nat.le_of_ble_eq_true rfl) (fun p e s m below meth c X hr hlk => g_Model_count X hr hlk  h)
end Z18
